section
-- ===== PART A: goes FIRST, ahead of the names: the tables' words, and 'selects' of the private methods out of them =====
/-- a private method of a class that the tables say can be made, by its rows of tables_1 -/
def lw_okq (q : MethodName × Nat) : Prop := (q.1.cls ≠ "java/lang/invoke/MethodHandle" ∧ q.1.cls ≠ "java/lang/invoke/VarHandle") ∧ Cond.instantiable q.1.cls q.2 ∈ tables_1 ∧ Cond.privateMethod q.1 ∈ tables_1 ∧ Cond.instanceMethod q.1 ∈ tables_1
theorem lw_p0 : lw_okq (⟨"StreetTillTen$Tape", "cutNumber", "(I)V"⟩, 6) := ⟨⟨by decide +kernel, by decide +kernel⟩, List.mem_of_getElem? (i := 25) (by decide +kernel), List.mem_of_getElem? (i := 206) (by decide +kernel), List.mem_of_getElem? (i := 207) (by decide +kernel)⟩
theorem lw_p1 : lw_okq (⟨"StreetTillTen$Tape", "cutWord", "(I)V"⟩, 6) := ⟨⟨by decide +kernel, by decide +kernel⟩, List.mem_of_getElem? (i := 25) (by decide +kernel), List.mem_of_getElem? (i := 213) (by decide +kernel), List.mem_of_getElem? (i := 214) (by decide +kernel)⟩
theorem lw_p2 : lw_okq (⟨"StreetTillTen$Tape", "nameFrom", "(I)I"⟩, 6) := ⟨⟨by decide +kernel, by decide +kernel⟩, List.mem_of_getElem? (i := 25) (by decide +kernel), List.mem_of_getElem? (i := 217) (by decide +kernel), List.mem_of_getElem? (i := 218) (by decide +kernel)⟩
theorem lw_p3 : lw_okq (⟨"StreetTillTen$Tape", "reads", "(Ljava/lang/String;I)Z"⟩, 6) := ⟨⟨by decide +kernel, by decide +kernel⟩, List.mem_of_getElem? (i := 25) (by decide +kernel), List.mem_of_getElem? (i := 222) (by decide +kernel), List.mem_of_getElem? (i := 223) (by decide +kernel)⟩
theorem lw_p4 : lw_okq (⟨"StreetTillTen$Tape", "keyFrom", "(I)I"⟩, 6) := ⟨⟨by decide +kernel, by decide +kernel⟩, List.mem_of_getElem? (i := 25) (by decide +kernel), List.mem_of_getElem? (i := 233) (by decide +kernel), List.mem_of_getElem? (i := 234) (by decide +kernel)⟩
theorem lw_p5 : lw_okq (⟨"StreetTillTen$Reader", "readPart", "(II)V"⟩, 5) := ⟨⟨by decide +kernel, by decide +kernel⟩, List.mem_of_getElem? (i := 165) (by decide +kernel), List.mem_of_getElem? (i := 243) (by decide +kernel), List.mem_of_getElem? (i := 244) (by decide +kernel)⟩
theorem lw_p6 : lw_okq (⟨"StreetTillTen$Reader", "expect", "(I)V"⟩, 5) := ⟨⟨by decide +kernel, by decide +kernel⟩, List.mem_of_getElem? (i := 165) (by decide +kernel), List.mem_of_getElem? (i := 247) (by decide +kernel), List.mem_of_getElem? (i := 248) (by decide +kernel)⟩
theorem lw_p7 : lw_okq (⟨"StreetTillTen$Reader", "next", "()V"⟩, 5) := ⟨⟨by decide +kernel, by decide +kernel⟩, List.mem_of_getElem? (i := 165) (by decide +kernel), List.mem_of_getElem? (i := 251) (by decide +kernel), List.mem_of_getElem? (i := 252) (by decide +kernel)⟩
theorem lw_p8 : lw_okq (⟨"StreetTillTen$Reader", "fail", "()V"⟩, 5) := ⟨⟨by decide +kernel, by decide +kernel⟩, List.mem_of_getElem? (i := 165) (by decide +kernel), List.mem_of_getElem? (i := 255) (by decide +kernel), List.mem_of_getElem? (i := 256) (by decide +kernel)⟩
theorem lw_p9 : lw_okq (⟨"StreetTillTen$Reader", "read", "(II)V"⟩, 5) := ⟨⟨by decide +kernel, by decide +kernel⟩, List.mem_of_getElem? (i := 165) (by decide +kernel), List.mem_of_getElem? (i := 259) (by decide +kernel), List.mem_of_getElem? (i := 260) (by decide +kernel)⟩
theorem lw_p10 : lw_okq (⟨"StreetTillTen$Reader", "readOne", "(I)V"⟩, 5) := ⟨⟨by decide +kernel, by decide +kernel⟩, List.mem_of_getElem? (i := 165) (by decide +kernel), List.mem_of_getElem? (i := 263) (by decide +kernel), List.mem_of_getElem? (i := 264) (by decide +kernel)⟩
theorem lw_p11 : lw_okq (⟨"StreetTillTen$Reader", "opens", "(I)Z"⟩, 5) := ⟨⟨by decide +kernel, by decide +kernel⟩, List.mem_of_getElem? (i := 165) (by decide +kernel), List.mem_of_getElem? (i := 271) (by decide +kernel), List.mem_of_getElem? (i := 272) (by decide +kernel)⟩
theorem lw_p12 : lw_okq (⟨"StreetTillTen", "isHouse", "(I)Z"⟩, 10) := ⟨⟨by decide +kernel, by decide +kernel⟩, List.mem_of_getElem? (i := 17) (by decide +kernel), List.mem_of_getElem? (i := 369) (by decide +kernel), List.mem_of_getElem? (i := 370) (by decide +kernel)⟩
theorem lw_p13 : lw_okq (⟨"StreetTillTen", "setting", "(II)I"⟩, 10) := ⟨⟨by decide +kernel, by decide +kernel⟩, List.mem_of_getElem? (i := 17) (by decide +kernel), List.mem_of_getElem? (i := 377) (by decide +kernel), List.mem_of_getElem? (i := 378) (by decide +kernel)⟩
theorem lw_p14 : lw_okq (⟨"StreetTillTen", "settle", "(II)I"⟩, 10) := ⟨⟨by decide +kernel, by decide +kernel⟩, List.mem_of_getElem? (i := 17) (by decide +kernel), List.mem_of_getElem? (i := 385) (by decide +kernel), List.mem_of_getElem? (i := 386) (by decide +kernel)⟩
theorem lw_p15 : lw_okq (⟨"StreetTillTen", "isTwo", "(II)Z"⟩, 10) := ⟨⟨by decide +kernel, by decide +kernel⟩, List.mem_of_getElem? (i := 17) (by decide +kernel), List.mem_of_getElem? (i := 397) (by decide +kernel), List.mem_of_getElem? (i := 398) (by decide +kernel)⟩
def lw_privs_1 : List (MethodName × Nat) := [(⟨"StreetTillTen$Tape", "cutNumber", "(I)V"⟩, 6), (⟨"StreetTillTen$Tape", "cutWord", "(I)V"⟩, 6), (⟨"StreetTillTen$Tape", "nameFrom", "(I)I"⟩, 6), (⟨"StreetTillTen$Tape", "reads", "(Ljava/lang/String;I)Z"⟩, 6), (⟨"StreetTillTen$Tape", "keyFrom", "(I)I"⟩, 6), (⟨"StreetTillTen$Reader", "readPart", "(II)V"⟩, 5), (⟨"StreetTillTen$Reader", "expect", "(I)V"⟩, 5), (⟨"StreetTillTen$Reader", "next", "()V"⟩, 5), (⟨"StreetTillTen$Reader", "fail", "()V"⟩, 5), (⟨"StreetTillTen$Reader", "read", "(II)V"⟩, 5), (⟨"StreetTillTen$Reader", "readOne", "(I)V"⟩, 5), (⟨"StreetTillTen$Reader", "opens", "(I)Z"⟩, 5), (⟨"StreetTillTen", "isHouse", "(I)Z"⟩, 10), (⟨"StreetTillTen", "setting", "(II)I"⟩, 10), (⟨"StreetTillTen", "settle", "(II)I"⟩, 10), (⟨"StreetTillTen", "isTwo", "(II)Z"⟩, 10)]
theorem lw_r1 : ∀ q ∈ lw_privs_1, lw_okq q := List.forall_mem_cons.mpr ⟨lw_p0, List.forall_mem_cons.mpr ⟨lw_p1, List.forall_mem_cons.mpr ⟨lw_p2, List.forall_mem_cons.mpr ⟨lw_p3, List.forall_mem_cons.mpr ⟨lw_p4, List.forall_mem_cons.mpr ⟨lw_p5, List.forall_mem_cons.mpr ⟨lw_p6, List.forall_mem_cons.mpr ⟨lw_p7, List.forall_mem_cons.mpr ⟨lw_p8, List.forall_mem_cons.mpr ⟨lw_p9, List.forall_mem_cons.mpr ⟨lw_p10, List.forall_mem_cons.mpr ⟨lw_p11, List.forall_mem_cons.mpr ⟨lw_p12, List.forall_mem_cons.mpr ⟨lw_p13, List.forall_mem_cons.mpr ⟨lw_p14, List.forall_mem_cons.mpr ⟨lw_p15, fun _ h => absurd h List.not_mem_nil⟩⟩⟩⟩⟩⟩⟩⟩⟩⟩⟩⟩⟩⟩⟩⟩
theorem lw_p16 : lw_okq (⟨"StreetTillTen$Street", "look", "(II)V"⟩, 9) := ⟨⟨by decide +kernel, by decide +kernel⟩, List.mem_of_getElem? (i := 289) (by decide +kernel), List.mem_of_getElem? (i := 425) (by decide +kernel), List.mem_of_getElem? (i := 426) (by decide +kernel)⟩
theorem lw_p17 : lw_okq (⟨"StreetTillTen", "figure", "(LStreetTillTen$Street;I)I"⟩, 10) := ⟨⟨by decide +kernel, by decide +kernel⟩, List.mem_of_getElem? (i := 17) (by decide +kernel), List.mem_of_getElem? (i := 505) (by decide +kernel), List.mem_of_getElem? (i := 506) (by decide +kernel)⟩
theorem lw_p18 : lw_okq (⟨"StreetTillTen$Circle", "companyOf", "(II)I"⟩, 2) := ⟨⟨by decide +kernel, by decide +kernel⟩, List.mem_of_getElem? (i := 57) (by decide +kernel), List.mem_of_getElem? (i := 522) (by decide +kernel), List.mem_of_getElem? (i := 523) (by decide +kernel)⟩
theorem lw_p19 : lw_okq (⟨"StreetTillTen$Circle", "further", "(I)I"⟩, 2) := ⟨⟨by decide +kernel, by decide +kernel⟩, List.mem_of_getElem? (i := 57) (by decide +kernel), List.mem_of_getElem? (i := 526) (by decide +kernel), List.mem_of_getElem? (i := 527) (by decide +kernel)⟩
theorem lw_p20 : lw_okq (⟨"StreetTillTen$Street", "dinAt", "(I)I"⟩, 9) := ⟨⟨by decide +kernel, by decide +kernel⟩, List.mem_of_getElem? (i := 289) (by decide +kernel), List.mem_of_getElem? (i := 558) (by decide +kernel), List.mem_of_getElem? (i := 559) (by decide +kernel)⟩
theorem lw_p21 : lw_okq (⟨"StreetTillTen", "canChange", "(II)Z"⟩, 10) := ⟨⟨by decide +kernel, by decide +kernel⟩, List.mem_of_getElem? (i := 17) (by decide +kernel), List.mem_of_getElem? (i := 604) (by decide +kernel), List.mem_of_getElem? (i := 605) (by decide +kernel)⟩
theorem lw_p22 : lw_okq (⟨"StreetTillTen", "otherwise", "(LStreetTillTen$Sheet;I)I"⟩, 10) := ⟨⟨by decide +kernel, by decide +kernel⟩, List.mem_of_getElem? (i := 17) (by decide +kernel), List.mem_of_getElem? (i := 636) (by decide +kernel), List.mem_of_getElem? (i := 637) (by decide +kernel)⟩
theorem lw_p23 : lw_okq (⟨"StreetTillTen", "limits", "(LStreetTillTen$Sheet;I)I"⟩, 10) := ⟨⟨by decide +kernel, by decide +kernel⟩, List.mem_of_getElem? (i := 17) (by decide +kernel), List.mem_of_getElem? (i := 644) (by decide +kernel), List.mem_of_getElem? (i := 645) (by decide +kernel)⟩
theorem lw_p24 : lw_okq (⟨"StreetTillTen", "fits", "(LStreetTillTen$Sheet;II)Z"⟩, 10) := ⟨⟨by decide +kernel, by decide +kernel⟩, List.mem_of_getElem? (i := 17) (by decide +kernel), List.mem_of_getElem? (i := 648) (by decide +kernel), List.mem_of_getElem? (i := 649) (by decide +kernel)⟩
theorem lw_p25 : lw_okq (⟨"StreetTillTen", "leastLimit", "(LStreetTillTen$Sheet;I)I"⟩, 10) := ⟨⟨by decide +kernel, by decide +kernel⟩, List.mem_of_getElem? (i := 17) (by decide +kernel), List.mem_of_getElem? (i := 652) (by decide +kernel), List.mem_of_getElem? (i := 653) (by decide +kernel)⟩
theorem lw_p26 : lw_okq (⟨"StreetTillTen", "possible", "(LStreetTillTen$Sheet;II)I"⟩, 10) := ⟨⟨by decide +kernel, by decide +kernel⟩, List.mem_of_getElem? (i := 17) (by decide +kernel), List.mem_of_getElem? (i := 656) (by decide +kernel), List.mem_of_getElem? (i := 657) (by decide +kernel)⟩
theorem lw_p27 : lw_okq (⟨"StreetTillTen", "choices", "(I)I"⟩, 10) := ⟨⟨by decide +kernel, by decide +kernel⟩, List.mem_of_getElem? (i := 17) (by decide +kernel), List.mem_of_getElem? (i := 660) (by decide +kernel), List.mem_of_getElem? (i := 661) (by decide +kernel)⟩
theorem lw_p28 : lw_okq (⟨"StreetTillTen", "suppose", "(III)V"⟩, 10) := ⟨⟨by decide +kernel, by decide +kernel⟩, List.mem_of_getElem? (i := 17) (by decide +kernel), List.mem_of_getElem? (i := 664) (by decide +kernel), List.mem_of_getElem? (i := 665) (by decide +kernel)⟩
theorem lw_p29 : lw_okq (⟨"StreetTillTen", "friendsDrawn", "(II)I"⟩, 10) := ⟨⟨by decide +kernel, by decide +kernel⟩, List.mem_of_getElem? (i := 17) (by decide +kernel), List.mem_of_getElem? (i := 684) (by decide +kernel), List.mem_of_getElem? (i := 685) (by decide +kernel)⟩
theorem lw_p30 : lw_okq (⟨"StreetTillTenModel", "spell", "(IIIIIIIII)V"⟩, 47) := ⟨⟨by decide +kernel, by decide +kernel⟩, List.mem_of_getElem? (i := 747) (by decide +kernel), List.mem_of_getElem? (i := 753) (by decide +kernel), List.mem_of_getElem? (i := 754) (by decide +kernel)⟩
theorem lw_p31 : lw_okq (⟨"StreetTillTenModel", "isHouse", "(I)Z"⟩, 47) := ⟨⟨by decide +kernel, by decide +kernel⟩, List.mem_of_getElem? (i := 747) (by decide +kernel), List.mem_of_getElem? (i := 907) (by decide +kernel), List.mem_of_getElem? (i := 908) (by decide +kernel)⟩
def lw_privs_2 : List (MethodName × Nat) := [(⟨"StreetTillTen$Street", "look", "(II)V"⟩, 9), (⟨"StreetTillTen", "figure", "(LStreetTillTen$Street;I)I"⟩, 10), (⟨"StreetTillTen$Circle", "companyOf", "(II)I"⟩, 2), (⟨"StreetTillTen$Circle", "further", "(I)I"⟩, 2), (⟨"StreetTillTen$Street", "dinAt", "(I)I"⟩, 9), (⟨"StreetTillTen", "canChange", "(II)Z"⟩, 10), (⟨"StreetTillTen", "otherwise", "(LStreetTillTen$Sheet;I)I"⟩, 10), (⟨"StreetTillTen", "limits", "(LStreetTillTen$Sheet;I)I"⟩, 10), (⟨"StreetTillTen", "fits", "(LStreetTillTen$Sheet;II)Z"⟩, 10), (⟨"StreetTillTen", "leastLimit", "(LStreetTillTen$Sheet;I)I"⟩, 10), (⟨"StreetTillTen", "possible", "(LStreetTillTen$Sheet;II)I"⟩, 10), (⟨"StreetTillTen", "choices", "(I)I"⟩, 10), (⟨"StreetTillTen", "suppose", "(III)V"⟩, 10), (⟨"StreetTillTen", "friendsDrawn", "(II)I"⟩, 10), (⟨"StreetTillTenModel", "spell", "(IIIIIIIII)V"⟩, 47), (⟨"StreetTillTenModel", "isHouse", "(I)Z"⟩, 47)]
theorem lw_r2 : ∀ q ∈ lw_privs_2, lw_okq q := List.forall_mem_cons.mpr ⟨lw_p16, List.forall_mem_cons.mpr ⟨lw_p17, List.forall_mem_cons.mpr ⟨lw_p18, List.forall_mem_cons.mpr ⟨lw_p19, List.forall_mem_cons.mpr ⟨lw_p20, List.forall_mem_cons.mpr ⟨lw_p21, List.forall_mem_cons.mpr ⟨lw_p22, List.forall_mem_cons.mpr ⟨lw_p23, List.forall_mem_cons.mpr ⟨lw_p24, List.forall_mem_cons.mpr ⟨lw_p25, List.forall_mem_cons.mpr ⟨lw_p26, List.forall_mem_cons.mpr ⟨lw_p27, List.forall_mem_cons.mpr ⟨lw_p28, List.forall_mem_cons.mpr ⟨lw_p29, List.forall_mem_cons.mpr ⟨lw_p30, List.forall_mem_cons.mpr ⟨lw_p31, fun _ h => absurd h List.not_mem_nil⟩⟩⟩⟩⟩⟩⟩⟩⟩⟩⟩⟩⟩⟩⟩⟩
theorem lw_p32 : lw_okq (⟨"StreetTillTenModel", "strengthOf", "(II)I"⟩, 47) := ⟨⟨by decide +kernel, by decide +kernel⟩, List.mem_of_getElem? (i := 747) (by decide +kernel), List.mem_of_getElem? (i := 925) (by decide +kernel), List.mem_of_getElem? (i := 926) (by decide +kernel)⟩
theorem lw_p33 : lw_okq (⟨"StreetTillTenModel", "seatsOf", "(I)I"⟩, 47) := ⟨⟨by decide +kernel, by decide +kernel⟩, List.mem_of_getElem? (i := 747) (by decide +kernel), List.mem_of_getElem? (i := 929) (by decide +kernel), List.mem_of_getElem? (i := 930) (by decide +kernel)⟩
theorem lw_p34 : lw_okq (⟨"StreetTillTenModel", "soundsOf", "(I)I"⟩, 47) := ⟨⟨by decide +kernel, by decide +kernel⟩, List.mem_of_getElem? (i := 747) (by decide +kernel), List.mem_of_getElem? (i := 933) (by decide +kernel), List.mem_of_getElem? (i := 934) (by decide +kernel)⟩
theorem lw_p35 : lw_okq (⟨"StreetTillTenModel", "says", "(III)I"⟩, 47) := ⟨⟨by decide +kernel, by decide +kernel⟩, List.mem_of_getElem? (i := 747) (by decide +kernel), List.mem_of_getElem? (i := 937) (by decide +kernel), List.mem_of_getElem? (i := 938) (by decide +kernel)⟩
theorem lw_p36 : lw_okq (⟨"StreetTillTenModel", "read", "(II)I"⟩, 47) := ⟨⟨by decide +kernel, by decide +kernel⟩, List.mem_of_getElem? (i := 747) (by decide +kernel), List.mem_of_getElem? (i := 944) (by decide +kernel), List.mem_of_getElem? (i := 945) (by decide +kernel)⟩
theorem lw_p37 : lw_okq (⟨"StreetTillTenModel", "next", "()V"⟩, 47) := ⟨⟨by decide +kernel, by decide +kernel⟩, List.mem_of_getElem? (i := 747) (by decide +kernel), List.mem_of_getElem? (i := 948) (by decide +kernel), List.mem_of_getElem? (i := 949) (by decide +kernel)⟩
theorem lw_p38 : lw_okq (⟨"StreetTillTenModel", "byteAt", "(I)I"⟩, 47) := ⟨⟨by decide +kernel, by decide +kernel⟩, List.mem_of_getElem? (i := 747) (by decide +kernel), List.mem_of_getElem? (i := 952) (by decide +kernel), List.mem_of_getElem? (i := 953) (by decide +kernel)⟩
theorem lw_p39 : lw_okq (⟨"StreetTillTenModel", "isWord", "(IIIIIIII)Z"⟩, 47) := ⟨⟨by decide +kernel, by decide +kernel⟩, List.mem_of_getElem? (i := 747) (by decide +kernel), List.mem_of_getElem? (i := 960) (by decide +kernel), List.mem_of_getElem? (i := 961) (by decide +kernel)⟩
theorem lw_p40 : lw_okq (⟨"StreetTillTenModel", "isLetter", "(II)Z"⟩, 47) := ⟨⟨by decide +kernel, by decide +kernel⟩, List.mem_of_getElem? (i := 747) (by decide +kernel), List.mem_of_getElem? (i := 964) (by decide +kernel), List.mem_of_getElem? (i := 965) (by decide +kernel)⟩
theorem lw_p41 : lw_okq (⟨"StreetTillTenModel", "part", "(Z)I"⟩, 47) := ⟨⟨by decide +kernel, by decide +kernel⟩, List.mem_of_getElem? (i := 747) (by decide +kernel), List.mem_of_getElem? (i := 968) (by decide +kernel), List.mem_of_getElem? (i := 969) (by decide +kernel)⟩
theorem lw_p42 : lw_okq (⟨"StreetTillTenModel", "fail", "()V"⟩, 47) := ⟨⟨by decide +kernel, by decide +kernel⟩, List.mem_of_getElem? (i := 747) (by decide +kernel), List.mem_of_getElem? (i := 972) (by decide +kernel), List.mem_of_getElem? (i := 973) (by decide +kernel)⟩
theorem lw_p43 : lw_okq (⟨"StreetTillTenModel", "either0", "()I"⟩, 47) := ⟨⟨by decide +kernel, by decide +kernel⟩, List.mem_of_getElem? (i := 747) (by decide +kernel), List.mem_of_getElem? (i := 976) (by decide +kernel), List.mem_of_getElem? (i := 977) (by decide +kernel)⟩
theorem lw_p44 : lw_okq (⟨"StreetTillTenModel", "both0", "()I"⟩, 47) := ⟨⟨by decide +kernel, by decide +kernel⟩, List.mem_of_getElem? (i := 747) (by decide +kernel), List.mem_of_getElem? (i := 980) (by decide +kernel), List.mem_of_getElem? (i := 981) (by decide +kernel)⟩
theorem lw_p45 : lw_okq (⟨"StreetTillTenModel", "not0", "()I"⟩, 47) := ⟨⟨by decide +kernel, by decide +kernel⟩, List.mem_of_getElem? (i := 747) (by decide +kernel), List.mem_of_getElem? (i := 984) (by decide +kernel), List.mem_of_getElem? (i := 985) (by decide +kernel)⟩
theorem lw_p46 : lw_okq (⟨"StreetTillTenModel", "opens", "()Z"⟩, 47) := ⟨⟨by decide +kernel, by decide +kernel⟩, List.mem_of_getElem? (i := 747) (by decide +kernel), List.mem_of_getElem? (i := 988) (by decide +kernel), List.mem_of_getElem? (i := 989) (by decide +kernel)⟩
theorem lw_p47 : lw_okq (⟨"StreetTillTenModel", "not1", "()I"⟩, 47) := ⟨⟨by decide +kernel, by decide +kernel⟩, List.mem_of_getElem? (i := 747) (by decide +kernel), List.mem_of_getElem? (i := 992) (by decide +kernel), List.mem_of_getElem? (i := 993) (by decide +kernel)⟩
def lw_privs_3 : List (MethodName × Nat) := [(⟨"StreetTillTenModel", "strengthOf", "(II)I"⟩, 47), (⟨"StreetTillTenModel", "seatsOf", "(I)I"⟩, 47), (⟨"StreetTillTenModel", "soundsOf", "(I)I"⟩, 47), (⟨"StreetTillTenModel", "says", "(III)I"⟩, 47), (⟨"StreetTillTenModel", "read", "(II)I"⟩, 47), (⟨"StreetTillTenModel", "next", "()V"⟩, 47), (⟨"StreetTillTenModel", "byteAt", "(I)I"⟩, 47), (⟨"StreetTillTenModel", "isWord", "(IIIIIIII)Z"⟩, 47), (⟨"StreetTillTenModel", "isLetter", "(II)Z"⟩, 47), (⟨"StreetTillTenModel", "part", "(Z)I"⟩, 47), (⟨"StreetTillTenModel", "fail", "()V"⟩, 47), (⟨"StreetTillTenModel", "either0", "()I"⟩, 47), (⟨"StreetTillTenModel", "both0", "()I"⟩, 47), (⟨"StreetTillTenModel", "not0", "()I"⟩, 47), (⟨"StreetTillTenModel", "opens", "()Z"⟩, 47), (⟨"StreetTillTenModel", "not1", "()I"⟩, 47)]
theorem lw_r3 : ∀ q ∈ lw_privs_3, lw_okq q := List.forall_mem_cons.mpr ⟨lw_p32, List.forall_mem_cons.mpr ⟨lw_p33, List.forall_mem_cons.mpr ⟨lw_p34, List.forall_mem_cons.mpr ⟨lw_p35, List.forall_mem_cons.mpr ⟨lw_p36, List.forall_mem_cons.mpr ⟨lw_p37, List.forall_mem_cons.mpr ⟨lw_p38, List.forall_mem_cons.mpr ⟨lw_p39, List.forall_mem_cons.mpr ⟨lw_p40, List.forall_mem_cons.mpr ⟨lw_p41, List.forall_mem_cons.mpr ⟨lw_p42, List.forall_mem_cons.mpr ⟨lw_p43, List.forall_mem_cons.mpr ⟨lw_p44, List.forall_mem_cons.mpr ⟨lw_p45, List.forall_mem_cons.mpr ⟨lw_p46, List.forall_mem_cons.mpr ⟨lw_p47, fun _ h => absurd h List.not_mem_nil⟩⟩⟩⟩⟩⟩⟩⟩⟩⟩⟩⟩⟩⟩⟩⟩
theorem lw_p48 : lw_okq (⟨"StreetTillTenModel", "not2", "()I"⟩, 47) := ⟨⟨by decide +kernel, by decide +kernel⟩, List.mem_of_getElem? (i := 747) (by decide +kernel), List.mem_of_getElem? (i := 996) (by decide +kernel), List.mem_of_getElem? (i := 997) (by decide +kernel)⟩
theorem lw_p49 : lw_okq (⟨"StreetTillTenModel", "not3", "()I"⟩, 47) := ⟨⟨by decide +kernel, by decide +kernel⟩, List.mem_of_getElem? (i := 747) (by decide +kernel), List.mem_of_getElem? (i := 1000) (by decide +kernel), List.mem_of_getElem? (i := 1001) (by decide +kernel)⟩
theorem lw_p50 : lw_okq (⟨"StreetTillTenModel", "not4", "()I"⟩, 47) := ⟨⟨by decide +kernel, by decide +kernel⟩, List.mem_of_getElem? (i := 747) (by decide +kernel), List.mem_of_getElem? (i := 1004) (by decide +kernel), List.mem_of_getElem? (i := 1005) (by decide +kernel)⟩
theorem lw_p51 : lw_okq (⟨"StreetTillTenModel", "not5", "()I"⟩, 47) := ⟨⟨by decide +kernel, by decide +kernel⟩, List.mem_of_getElem? (i := 747) (by decide +kernel), List.mem_of_getElem? (i := 1008) (by decide +kernel), List.mem_of_getElem? (i := 1009) (by decide +kernel)⟩
theorem lw_p52 : lw_okq (⟨"StreetTillTenModel", "added5", "()I"⟩, 47) := ⟨⟨by decide +kernel, by decide +kernel⟩, List.mem_of_getElem? (i := 747) (by decide +kernel), List.mem_of_getElem? (i := 1012) (by decide +kernel), List.mem_of_getElem? (i := 1013) (by decide +kernel)⟩
theorem lw_p53 : lw_okq (⟨"StreetTillTenModel", "term5", "()I"⟩, 47) := ⟨⟨by decide +kernel, by decide +kernel⟩, List.mem_of_getElem? (i := 747) (by decide +kernel), List.mem_of_getElem? (i := 1016) (by decide +kernel), List.mem_of_getElem? (i := 1017) (by decide +kernel)⟩
theorem lw_p54 : lw_okq (⟨"StreetTillTenModel", "atom5", "()I"⟩, 47) := ⟨⟨by decide +kernel, by decide +kernel⟩, List.mem_of_getElem? (i := 747) (by decide +kernel), List.mem_of_getElem? (i := 1020) (by decide +kernel), List.mem_of_getElem? (i := 1021) (by decide +kernel)⟩
theorem lw_p55 : lw_okq (⟨"StreetTillTenModel", "isSign", "(I)Z"⟩, 47) := ⟨⟨by decide +kernel, by decide +kernel⟩, List.mem_of_getElem? (i := 747) (by decide +kernel), List.mem_of_getElem? (i := 1024) (by decide +kernel), List.mem_of_getElem? (i := 1025) (by decide +kernel)⟩
theorem lw_p56 : lw_okq (⟨"StreetTillTenModel", "name", "()I"⟩, 47) := ⟨⟨by decide +kernel, by decide +kernel⟩, List.mem_of_getElem? (i := 747) (by decide +kernel), List.mem_of_getElem? (i := 1028) (by decide +kernel), List.mem_of_getElem? (i := 1029) (by decide +kernel)⟩
theorem lw_p57 : lw_okq (⟨"StreetTillTenModel", "added4", "()I"⟩, 47) := ⟨⟨by decide +kernel, by decide +kernel⟩, List.mem_of_getElem? (i := 747) (by decide +kernel), List.mem_of_getElem? (i := 1034) (by decide +kernel), List.mem_of_getElem? (i := 1035) (by decide +kernel)⟩
theorem lw_p58 : lw_okq (⟨"StreetTillTenModel", "term4", "()I"⟩, 47) := ⟨⟨by decide +kernel, by decide +kernel⟩, List.mem_of_getElem? (i := 747) (by decide +kernel), List.mem_of_getElem? (i := 1038) (by decide +kernel), List.mem_of_getElem? (i := 1039) (by decide +kernel)⟩
theorem lw_p59 : lw_okq (⟨"StreetTillTenModel", "atom4", "()I"⟩, 47) := ⟨⟨by decide +kernel, by decide +kernel⟩, List.mem_of_getElem? (i := 747) (by decide +kernel), List.mem_of_getElem? (i := 1042) (by decide +kernel), List.mem_of_getElem? (i := 1043) (by decide +kernel)⟩
theorem lw_p60 : lw_okq (⟨"StreetTillTenModel", "either5", "()I"⟩, 47) := ⟨⟨by decide +kernel, by decide +kernel⟩, List.mem_of_getElem? (i := 747) (by decide +kernel), List.mem_of_getElem? (i := 1046) (by decide +kernel), List.mem_of_getElem? (i := 1047) (by decide +kernel)⟩
theorem lw_p61 : lw_okq (⟨"StreetTillTenModel", "both5", "()I"⟩, 47) := ⟨⟨by decide +kernel, by decide +kernel⟩, List.mem_of_getElem? (i := 747) (by decide +kernel), List.mem_of_getElem? (i := 1050) (by decide +kernel), List.mem_of_getElem? (i := 1051) (by decide +kernel)⟩
theorem lw_p62 : lw_okq (⟨"StreetTillTenModel", "added3", "()I"⟩, 47) := ⟨⟨by decide +kernel, by decide +kernel⟩, List.mem_of_getElem? (i := 747) (by decide +kernel), List.mem_of_getElem? (i := 1054) (by decide +kernel), List.mem_of_getElem? (i := 1055) (by decide +kernel)⟩
theorem lw_p63 : lw_okq (⟨"StreetTillTenModel", "term3", "()I"⟩, 47) := ⟨⟨by decide +kernel, by decide +kernel⟩, List.mem_of_getElem? (i := 747) (by decide +kernel), List.mem_of_getElem? (i := 1058) (by decide +kernel), List.mem_of_getElem? (i := 1059) (by decide +kernel)⟩
def lw_privs_4 : List (MethodName × Nat) := [(⟨"StreetTillTenModel", "not2", "()I"⟩, 47), (⟨"StreetTillTenModel", "not3", "()I"⟩, 47), (⟨"StreetTillTenModel", "not4", "()I"⟩, 47), (⟨"StreetTillTenModel", "not5", "()I"⟩, 47), (⟨"StreetTillTenModel", "added5", "()I"⟩, 47), (⟨"StreetTillTenModel", "term5", "()I"⟩, 47), (⟨"StreetTillTenModel", "atom5", "()I"⟩, 47), (⟨"StreetTillTenModel", "isSign", "(I)Z"⟩, 47), (⟨"StreetTillTenModel", "name", "()I"⟩, 47), (⟨"StreetTillTenModel", "added4", "()I"⟩, 47), (⟨"StreetTillTenModel", "term4", "()I"⟩, 47), (⟨"StreetTillTenModel", "atom4", "()I"⟩, 47), (⟨"StreetTillTenModel", "either5", "()I"⟩, 47), (⟨"StreetTillTenModel", "both5", "()I"⟩, 47), (⟨"StreetTillTenModel", "added3", "()I"⟩, 47), (⟨"StreetTillTenModel", "term3", "()I"⟩, 47)]
theorem lw_r4 : ∀ q ∈ lw_privs_4, lw_okq q := List.forall_mem_cons.mpr ⟨lw_p48, List.forall_mem_cons.mpr ⟨lw_p49, List.forall_mem_cons.mpr ⟨lw_p50, List.forall_mem_cons.mpr ⟨lw_p51, List.forall_mem_cons.mpr ⟨lw_p52, List.forall_mem_cons.mpr ⟨lw_p53, List.forall_mem_cons.mpr ⟨lw_p54, List.forall_mem_cons.mpr ⟨lw_p55, List.forall_mem_cons.mpr ⟨lw_p56, List.forall_mem_cons.mpr ⟨lw_p57, List.forall_mem_cons.mpr ⟨lw_p58, List.forall_mem_cons.mpr ⟨lw_p59, List.forall_mem_cons.mpr ⟨lw_p60, List.forall_mem_cons.mpr ⟨lw_p61, List.forall_mem_cons.mpr ⟨lw_p62, List.forall_mem_cons.mpr ⟨lw_p63, fun _ h => absurd h List.not_mem_nil⟩⟩⟩⟩⟩⟩⟩⟩⟩⟩⟩⟩⟩⟩⟩⟩
theorem lw_p64 : lw_okq (⟨"StreetTillTenModel", "atom3", "()I"⟩, 47) := ⟨⟨by decide +kernel, by decide +kernel⟩, List.mem_of_getElem? (i := 747) (by decide +kernel), List.mem_of_getElem? (i := 1062) (by decide +kernel), List.mem_of_getElem? (i := 1063) (by decide +kernel)⟩
theorem lw_p65 : lw_okq (⟨"StreetTillTenModel", "either4", "()I"⟩, 47) := ⟨⟨by decide +kernel, by decide +kernel⟩, List.mem_of_getElem? (i := 747) (by decide +kernel), List.mem_of_getElem? (i := 1066) (by decide +kernel), List.mem_of_getElem? (i := 1067) (by decide +kernel)⟩
theorem lw_p66 : lw_okq (⟨"StreetTillTenModel", "both4", "()I"⟩, 47) := ⟨⟨by decide +kernel, by decide +kernel⟩, List.mem_of_getElem? (i := 747) (by decide +kernel), List.mem_of_getElem? (i := 1070) (by decide +kernel), List.mem_of_getElem? (i := 1071) (by decide +kernel)⟩
theorem lw_p67 : lw_okq (⟨"StreetTillTenModel", "added2", "()I"⟩, 47) := ⟨⟨by decide +kernel, by decide +kernel⟩, List.mem_of_getElem? (i := 747) (by decide +kernel), List.mem_of_getElem? (i := 1074) (by decide +kernel), List.mem_of_getElem? (i := 1075) (by decide +kernel)⟩
theorem lw_p68 : lw_okq (⟨"StreetTillTenModel", "term2", "()I"⟩, 47) := ⟨⟨by decide +kernel, by decide +kernel⟩, List.mem_of_getElem? (i := 747) (by decide +kernel), List.mem_of_getElem? (i := 1078) (by decide +kernel), List.mem_of_getElem? (i := 1079) (by decide +kernel)⟩
theorem lw_p69 : lw_okq (⟨"StreetTillTenModel", "atom2", "()I"⟩, 47) := ⟨⟨by decide +kernel, by decide +kernel⟩, List.mem_of_getElem? (i := 747) (by decide +kernel), List.mem_of_getElem? (i := 1082) (by decide +kernel), List.mem_of_getElem? (i := 1083) (by decide +kernel)⟩
theorem lw_p70 : lw_okq (⟨"StreetTillTenModel", "either3", "()I"⟩, 47) := ⟨⟨by decide +kernel, by decide +kernel⟩, List.mem_of_getElem? (i := 747) (by decide +kernel), List.mem_of_getElem? (i := 1086) (by decide +kernel), List.mem_of_getElem? (i := 1087) (by decide +kernel)⟩
theorem lw_p71 : lw_okq (⟨"StreetTillTenModel", "both3", "()I"⟩, 47) := ⟨⟨by decide +kernel, by decide +kernel⟩, List.mem_of_getElem? (i := 747) (by decide +kernel), List.mem_of_getElem? (i := 1090) (by decide +kernel), List.mem_of_getElem? (i := 1091) (by decide +kernel)⟩
theorem lw_p72 : lw_okq (⟨"StreetTillTenModel", "added1", "()I"⟩, 47) := ⟨⟨by decide +kernel, by decide +kernel⟩, List.mem_of_getElem? (i := 747) (by decide +kernel), List.mem_of_getElem? (i := 1094) (by decide +kernel), List.mem_of_getElem? (i := 1095) (by decide +kernel)⟩
theorem lw_p73 : lw_okq (⟨"StreetTillTenModel", "term1", "()I"⟩, 47) := ⟨⟨by decide +kernel, by decide +kernel⟩, List.mem_of_getElem? (i := 747) (by decide +kernel), List.mem_of_getElem? (i := 1098) (by decide +kernel), List.mem_of_getElem? (i := 1099) (by decide +kernel)⟩
theorem lw_p74 : lw_okq (⟨"StreetTillTenModel", "atom1", "()I"⟩, 47) := ⟨⟨by decide +kernel, by decide +kernel⟩, List.mem_of_getElem? (i := 747) (by decide +kernel), List.mem_of_getElem? (i := 1102) (by decide +kernel), List.mem_of_getElem? (i := 1103) (by decide +kernel)⟩
theorem lw_p75 : lw_okq (⟨"StreetTillTenModel", "either2", "()I"⟩, 47) := ⟨⟨by decide +kernel, by decide +kernel⟩, List.mem_of_getElem? (i := 747) (by decide +kernel), List.mem_of_getElem? (i := 1106) (by decide +kernel), List.mem_of_getElem? (i := 1107) (by decide +kernel)⟩
theorem lw_p76 : lw_okq (⟨"StreetTillTenModel", "both2", "()I"⟩, 47) := ⟨⟨by decide +kernel, by decide +kernel⟩, List.mem_of_getElem? (i := 747) (by decide +kernel), List.mem_of_getElem? (i := 1110) (by decide +kernel), List.mem_of_getElem? (i := 1111) (by decide +kernel)⟩
theorem lw_p77 : lw_okq (⟨"StreetTillTenModel", "added0", "()I"⟩, 47) := ⟨⟨by decide +kernel, by decide +kernel⟩, List.mem_of_getElem? (i := 747) (by decide +kernel), List.mem_of_getElem? (i := 1114) (by decide +kernel), List.mem_of_getElem? (i := 1115) (by decide +kernel)⟩
theorem lw_p78 : lw_okq (⟨"StreetTillTenModel", "term0", "()I"⟩, 47) := ⟨⟨by decide +kernel, by decide +kernel⟩, List.mem_of_getElem? (i := 747) (by decide +kernel), List.mem_of_getElem? (i := 1118) (by decide +kernel), List.mem_of_getElem? (i := 1119) (by decide +kernel)⟩
theorem lw_p79 : lw_okq (⟨"StreetTillTenModel", "atom0", "()I"⟩, 47) := ⟨⟨by decide +kernel, by decide +kernel⟩, List.mem_of_getElem? (i := 747) (by decide +kernel), List.mem_of_getElem? (i := 1122) (by decide +kernel), List.mem_of_getElem? (i := 1123) (by decide +kernel)⟩
def lw_privs_5 : List (MethodName × Nat) := [(⟨"StreetTillTenModel", "atom3", "()I"⟩, 47), (⟨"StreetTillTenModel", "either4", "()I"⟩, 47), (⟨"StreetTillTenModel", "both4", "()I"⟩, 47), (⟨"StreetTillTenModel", "added2", "()I"⟩, 47), (⟨"StreetTillTenModel", "term2", "()I"⟩, 47), (⟨"StreetTillTenModel", "atom2", "()I"⟩, 47), (⟨"StreetTillTenModel", "either3", "()I"⟩, 47), (⟨"StreetTillTenModel", "both3", "()I"⟩, 47), (⟨"StreetTillTenModel", "added1", "()I"⟩, 47), (⟨"StreetTillTenModel", "term1", "()I"⟩, 47), (⟨"StreetTillTenModel", "atom1", "()I"⟩, 47), (⟨"StreetTillTenModel", "either2", "()I"⟩, 47), (⟨"StreetTillTenModel", "both2", "()I"⟩, 47), (⟨"StreetTillTenModel", "added0", "()I"⟩, 47), (⟨"StreetTillTenModel", "term0", "()I"⟩, 47), (⟨"StreetTillTenModel", "atom0", "()I"⟩, 47)]
theorem lw_r5 : ∀ q ∈ lw_privs_5, lw_okq q := List.forall_mem_cons.mpr ⟨lw_p64, List.forall_mem_cons.mpr ⟨lw_p65, List.forall_mem_cons.mpr ⟨lw_p66, List.forall_mem_cons.mpr ⟨lw_p67, List.forall_mem_cons.mpr ⟨lw_p68, List.forall_mem_cons.mpr ⟨lw_p69, List.forall_mem_cons.mpr ⟨lw_p70, List.forall_mem_cons.mpr ⟨lw_p71, List.forall_mem_cons.mpr ⟨lw_p72, List.forall_mem_cons.mpr ⟨lw_p73, List.forall_mem_cons.mpr ⟨lw_p74, List.forall_mem_cons.mpr ⟨lw_p75, List.forall_mem_cons.mpr ⟨lw_p76, List.forall_mem_cons.mpr ⟨lw_p77, List.forall_mem_cons.mpr ⟨lw_p78, List.forall_mem_cons.mpr ⟨lw_p79, fun _ h => absurd h List.not_mem_nil⟩⟩⟩⟩⟩⟩⟩⟩⟩⟩⟩⟩⟩⟩⟩⟩
theorem lw_p80 : lw_okq (⟨"StreetTillTenModel", "either1", "()I"⟩, 47) := ⟨⟨by decide +kernel, by decide +kernel⟩, List.mem_of_getElem? (i := 747) (by decide +kernel), List.mem_of_getElem? (i := 1126) (by decide +kernel), List.mem_of_getElem? (i := 1127) (by decide +kernel)⟩
theorem lw_p81 : lw_okq (⟨"StreetTillTenModel", "both1", "()I"⟩, 47) := ⟨⟨by decide +kernel, by decide +kernel⟩, List.mem_of_getElem? (i := 747) (by decide +kernel), List.mem_of_getElem? (i := 1130) (by decide +kernel), List.mem_of_getElem? (i := 1131) (by decide +kernel)⟩
theorem lw_p82 : lw_okq (⟨"StreetTillTenModel", "knows", "(II)Z"⟩, 47) := ⟨⟨by decide +kernel, by decide +kernel⟩, List.mem_of_getElem? (i := 747) (by decide +kernel), List.mem_of_getElem? (i := 1137) (by decide +kernel), List.mem_of_getElem? (i := 1138) (by decide +kernel)⟩
theorem lw_p83 : lw_okq (⟨"StreetTillTenModel", "lays", "(III)V"⟩, 47) := ⟨⟨by decide +kernel, by decide +kernel⟩, List.mem_of_getElem? (i := 747) (by decide +kernel), List.mem_of_getElem? (i := 1141) (by decide +kernel), List.mem_of_getElem? (i := 1142) (by decide +kernel)⟩
theorem lw_p84 : lw_okq (⟨"StreetTillTenModel", "binds", "(III)V"⟩, 47) := ⟨⟨by decide +kernel, by decide +kernel⟩, List.mem_of_getElem? (i := 747) (by decide +kernel), List.mem_of_getElem? (i := 1150) (by decide +kernel), List.mem_of_getElem? (i := 1151) (by decide +kernel)⟩
theorem lw_p85 : lw_okq (⟨"StreetTillTenModel", "areTwo", "(II)Z"⟩, 47) := ⟨⟨by decide +kernel, by decide +kernel⟩, List.mem_of_getElem? (i := 747) (by decide +kernel), List.mem_of_getElem? (i := 1158) (by decide +kernel), List.mem_of_getElem? (i := 1159) (by decide +kernel)⟩
theorem lw_p86 : lw_okq (⟨"StreetTillTenModel", "meetsOf", "(II)I"⟩, 47) := ⟨⟨by decide +kernel, by decide +kernel⟩, List.mem_of_getElem? (i := 747) (by decide +kernel), List.mem_of_getElem? (i := 1180) (by decide +kernel), List.mem_of_getElem? (i := 1181) (by decide +kernel)⟩
theorem lw_p87 : lw_okq (⟨"StreetTillTenModel", "fadesOf", "(II)I"⟩, 47) := ⟨⟨by decide +kernel, by decide +kernel⟩, List.mem_of_getElem? (i := 747) (by decide +kernel), List.mem_of_getElem? (i := 1184) (by decide +kernel), List.mem_of_getElem? (i := 1185) (by decide +kernel)⟩
theorem lw_p88 : lw_okq (⟨"StreetTillTenModel", "feasts", "()V"⟩, 47) := ⟨⟨by decide +kernel, by decide +kernel⟩, List.mem_of_getElem? (i := 747) (by decide +kernel), List.mem_of_getElem? (i := 1192) (by decide +kernel), List.mem_of_getElem? (i := 1193) (by decide +kernel)⟩
theorem lw_p89 : lw_okq (⟨"StreetTillTenModel", "friends", "()I"⟩, 47) := ⟨⟨by decide +kernel, by decide +kernel⟩, List.mem_of_getElem? (i := 747) (by decide +kernel), List.mem_of_getElem? (i := 1196) (by decide +kernel), List.mem_of_getElem? (i := 1197) (by decide +kernel)⟩
theorem lw_p90 : lw_okq (⟨"StreetTillTenModel", "fades", "()V"⟩, 47) := ⟨⟨by decide +kernel, by decide +kernel⟩, List.mem_of_getElem? (i := 747) (by decide +kernel), List.mem_of_getElem? (i := 1204) (by decide +kernel), List.mem_of_getElem? (i := 1205) (by decide +kernel)⟩
theorem lw_p91 : lw_okq (⟨"StreetTillTenModel", "quietest", "()I"⟩, 47) := ⟨⟨by decide +kernel, by decide +kernel⟩, List.mem_of_getElem? (i := 747) (by decide +kernel), List.mem_of_getElem? (i := 1212) (by decide +kernel), List.mem_of_getElem? (i := 1213) (by decide +kernel)⟩
theorem lw_p92 : lw_okq (⟨"StreetTillTenModel", "tellsOf", "(I)I"⟩, 47) := ⟨⟨by decide +kernel, by decide +kernel⟩, List.mem_of_getElem? (i := 747) (by decide +kernel), List.mem_of_getElem? (i := 1216) (by decide +kernel), List.mem_of_getElem? (i := 1217) (by decide +kernel)⟩
theorem lw_p93 : lw_okq (⟨"StreetTillTenModel", "waysAll", "()V"⟩, 47) := ⟨⟨by decide +kernel, by decide +kernel⟩, List.mem_of_getElem? (i := 747) (by decide +kernel), List.mem_of_getElem? (i := 1220) (by decide +kernel), List.mem_of_getElem? (i := 1221) (by decide +kernel)⟩
theorem lw_p94 : lw_okq (⟨"StreetTillTenModel", "companies", "()I"⟩, 47) := ⟨⟨by decide +kernel, by decide +kernel⟩, List.mem_of_getElem? (i := 747) (by decide +kernel), List.mem_of_getElem? (i := 1224) (by decide +kernel), List.mem_of_getElem? (i := 1225) (by decide +kernel)⟩
theorem lw_p95 : lw_okq (⟨"StreetTillTenModel", "largest", "()I"⟩, 47) := ⟨⟨by decide +kernel, by decide +kernel⟩, List.mem_of_getElem? (i := 747) (by decide +kernel), List.mem_of_getElem? (i := 1228) (by decide +kernel), List.mem_of_getElem? (i := 1229) (by decide +kernel)⟩
def lw_privs_6 : List (MethodName × Nat) := [(⟨"StreetTillTenModel", "either1", "()I"⟩, 47), (⟨"StreetTillTenModel", "both1", "()I"⟩, 47), (⟨"StreetTillTenModel", "knows", "(II)Z"⟩, 47), (⟨"StreetTillTenModel", "lays", "(III)V"⟩, 47), (⟨"StreetTillTenModel", "binds", "(III)V"⟩, 47), (⟨"StreetTillTenModel", "areTwo", "(II)Z"⟩, 47), (⟨"StreetTillTenModel", "meetsOf", "(II)I"⟩, 47), (⟨"StreetTillTenModel", "fadesOf", "(II)I"⟩, 47), (⟨"StreetTillTenModel", "feasts", "()V"⟩, 47), (⟨"StreetTillTenModel", "friends", "()I"⟩, 47), (⟨"StreetTillTenModel", "fades", "()V"⟩, 47), (⟨"StreetTillTenModel", "quietest", "()I"⟩, 47), (⟨"StreetTillTenModel", "tellsOf", "(I)I"⟩, 47), (⟨"StreetTillTenModel", "waysAll", "()V"⟩, 47), (⟨"StreetTillTenModel", "companies", "()I"⟩, 47), (⟨"StreetTillTenModel", "largest", "()I"⟩, 47)]
theorem lw_r6 : ∀ q ∈ lw_privs_6, lw_okq q := List.forall_mem_cons.mpr ⟨lw_p80, List.forall_mem_cons.mpr ⟨lw_p81, List.forall_mem_cons.mpr ⟨lw_p82, List.forall_mem_cons.mpr ⟨lw_p83, List.forall_mem_cons.mpr ⟨lw_p84, List.forall_mem_cons.mpr ⟨lw_p85, List.forall_mem_cons.mpr ⟨lw_p86, List.forall_mem_cons.mpr ⟨lw_p87, List.forall_mem_cons.mpr ⟨lw_p88, List.forall_mem_cons.mpr ⟨lw_p89, List.forall_mem_cons.mpr ⟨lw_p90, List.forall_mem_cons.mpr ⟨lw_p91, List.forall_mem_cons.mpr ⟨lw_p92, List.forall_mem_cons.mpr ⟨lw_p93, List.forall_mem_cons.mpr ⟨lw_p94, List.forall_mem_cons.mpr ⟨lw_p95, fun _ h => absurd h List.not_mem_nil⟩⟩⟩⟩⟩⟩⟩⟩⟩⟩⟩⟩⟩⟩⟩⟩
theorem lw_p96 : lw_okq (⟨"StreetTillTenModel", "strengthAll", "()I"⟩, 47) := ⟨⟨by decide +kernel, by decide +kernel⟩, List.mem_of_getElem? (i := 747) (by decide +kernel), List.mem_of_getElem? (i := 1232) (by decide +kernel), List.mem_of_getElem? (i := 1233) (by decide +kernel)⟩
theorem lw_p97 : lw_okq (⟨"StreetTillTenModel", "longest", "(I)I"⟩, 47) := ⟨⟨by decide +kernel, by decide +kernel⟩, List.mem_of_getElem? (i := 747) (by decide +kernel), List.mem_of_getElem? (i := 1236) (by decide +kernel), List.mem_of_getElem? (i := 1237) (by decide +kernel)⟩
theorem lw_p98 : lw_okq (⟨"StreetTillTenModel", "laysAside", "()V"⟩, 47) := ⟨⟨by decide +kernel, by decide +kernel⟩, List.mem_of_getElem? (i := 747) (by decide +kernel), List.mem_of_getElem? (i := 1250) (by decide +kernel), List.mem_of_getElem? (i := 1251) (by decide +kernel)⟩
theorem lw_p99 : lw_okq (⟨"StreetTillTenModel", "lives", "(I)V"⟩, 47) := ⟨⟨by decide +kernel, by decide +kernel⟩, List.mem_of_getElem? (i := 747) (by decide +kernel), List.mem_of_getElem? (i := 1254) (by decide +kernel), List.mem_of_getElem? (i := 1255) (by decide +kernel)⟩
theorem lw_p100 : lw_okq (⟨"StreetTillTenModel", "laysBack", "()V"⟩, 47) := ⟨⟨by decide +kernel, by decide +kernel⟩, List.mem_of_getElem? (i := 747) (by decide +kernel), List.mem_of_getElem? (i := 1258) (by decide +kernel), List.mem_of_getElem? (i := 1259) (by decide +kernel)⟩
theorem lw_p101 : lw_okq (⟨"StreetTillTenModel", "friendsBehind", "(I)I"⟩, 47) := ⟨⟨by decide +kernel, by decide +kernel⟩, List.mem_of_getElem? (i := 747) (by decide +kernel), List.mem_of_getElem? (i := 1271) (by decide +kernel), List.mem_of_getElem? (i := 1272) (by decide +kernel)⟩
theorem lw_p102 : lw_okq (⟨"StreetTillTenModel", "clears", "()V"⟩, 47) := ⟨⟨by decide +kernel, by decide +kernel⟩, List.mem_of_getElem? (i := 747) (by decide +kernel), List.mem_of_getElem? (i := 1284) (by decide +kernel), List.mem_of_getElem? (i := 1285) (by decide +kernel)⟩
theorem lw_p103 : lw_okq (⟨"StreetTillTenModel", "sitsAgain", "()V"⟩, 47) := ⟨⟨by decide +kernel, by decide +kernel⟩, List.mem_of_getElem? (i := 747) (by decide +kernel), List.mem_of_getElem? (i := 1288) (by decide +kernel), List.mem_of_getElem? (i := 1289) (by decide +kernel)⟩
theorem lw_p104 : lw_okq (⟨"StreetTillTenModel", "unlike", "(II)I"⟩, 47) := ⟨⟨by decide +kernel, by decide +kernel⟩, List.mem_of_getElem? (i := 747) (by decide +kernel), List.mem_of_getElem? (i := 1308) (by decide +kernel), List.mem_of_getElem? (i := 1309) (by decide +kernel)⟩
theorem lw_p105 : lw_okq (⟨"StreetTillTenModel", "limitsBy", "(IIZ)I"⟩, 47) := ⟨⟨by decide +kernel, by decide +kernel⟩, List.mem_of_getElem? (i := 747) (by decide +kernel), List.mem_of_getElem? (i := 1312) (by decide +kernel), List.mem_of_getElem? (i := 1313) (by decide +kernel)⟩
theorem lw_p106 : lw_okq (⟨"StreetTillTenModel", "friendsBy", "(II)I"⟩, 47) := ⟨⟨by decide +kernel, by decide +kernel⟩, List.mem_of_getElem? (i := 747) (by decide +kernel), List.mem_of_getElem? (i := 1328) (by decide +kernel), List.mem_of_getElem? (i := 1329) (by decide +kernel)⟩
def lw_privs_7 : List (MethodName × Nat) := [(⟨"StreetTillTenModel", "strengthAll", "()I"⟩, 47), (⟨"StreetTillTenModel", "longest", "(I)I"⟩, 47), (⟨"StreetTillTenModel", "laysAside", "()V"⟩, 47), (⟨"StreetTillTenModel", "lives", "(I)V"⟩, 47), (⟨"StreetTillTenModel", "laysBack", "()V"⟩, 47), (⟨"StreetTillTenModel", "friendsBehind", "(I)I"⟩, 47), (⟨"StreetTillTenModel", "clears", "()V"⟩, 47), (⟨"StreetTillTenModel", "sitsAgain", "()V"⟩, 47), (⟨"StreetTillTenModel", "unlike", "(II)I"⟩, 47), (⟨"StreetTillTenModel", "limitsBy", "(IIZ)I"⟩, 47), (⟨"StreetTillTenModel", "friendsBy", "(II)I"⟩, 47)]
theorem lw_r7 : ∀ q ∈ lw_privs_7, lw_okq q := List.forall_mem_cons.mpr ⟨lw_p96, List.forall_mem_cons.mpr ⟨lw_p97, List.forall_mem_cons.mpr ⟨lw_p98, List.forall_mem_cons.mpr ⟨lw_p99, List.forall_mem_cons.mpr ⟨lw_p100, List.forall_mem_cons.mpr ⟨lw_p101, List.forall_mem_cons.mpr ⟨lw_p102, List.forall_mem_cons.mpr ⟨lw_p103, List.forall_mem_cons.mpr ⟨lw_p104, List.forall_mem_cons.mpr ⟨lw_p105, List.forall_mem_cons.mpr ⟨lw_p106, fun _ h => absurd h List.not_mem_nil⟩⟩⟩⟩⟩⟩⟩⟩⟩⟩⟩
def lw_privs : List (MethodName × Nat) := lw_privs_1 ++ (lw_privs_2 ++ (lw_privs_3 ++ (lw_privs_4 ++ (lw_privs_5 ++ (lw_privs_6 ++ (lw_privs_7))))))
def lw_tbl : List Cond := k2_sels lw_privs ++ tables_1
theorem lw_privs_ok : ∀ q ∈ lw_privs, lw_okq q := by
  show ∀ q ∈ lw_privs_1 ++ (lw_privs_2 ++ (lw_privs_3 ++ (lw_privs_4 ++ (lw_privs_5 ++ (lw_privs_6 ++ (lw_privs_7)))))), lw_okq q
  exact List.forall_mem_append.mpr ⟨lw_r1, List.forall_mem_append.mpr ⟨lw_r2, List.forall_mem_append.mpr ⟨lw_r3, List.forall_mem_append.mpr ⟨lw_r4, List.forall_mem_append.mpr ⟨lw_r5, List.forall_mem_append.mpr ⟨lw_r6, lw_r7⟩⟩⟩⟩⟩⟩
-- ===== end of PART A; then your names; then what follows =====
def RX0 : String := "StreetTillTen$Circle"
def TX0 : u_T := fun k => match k with
  | 0 => ("StreetTillTen$Circle", "count", "I", false)
  | _ => ("StreetTillTen$Circle", "known", "[I", true)
def tyX0 : Nat → FieldType := fun k => match k with
  | 0 => .int
  | _ => .array .int
abbrev wsX00 : List Cond := u_ws RX0 TX0 2
theorem nmX0 : ∀ a, a < 2 → ∀ b, b < 2 → a ≠ b → (TX0 a).2.1 ≠ (TX0 b).2.1 := by decide +kernel
theorem tyX0_ok : ∀ k, k < 2 → parseFieldDescriptor (TX0 k).2.2.1 = some (tyX0 k) := by decide +kernel
abbrev cX0_init : ByteArray := prog_2_method_1_code
def yX0_init : MethodName := ⟨RX0, "<init>", "()V"⟩
abbrev cX0_see : ByteArray := prog_2_method_2_code
def yX0_see : MethodName := ⟨RX0, "see", "(LStreetTillTen$Street;)V"⟩
abbrev cX0_everyone : ByteArray := prog_2_method_3_code
def yX0_everyone : MethodName := ⟨RX0, "everyone", "()I"⟩
abbrev cX0_turn : ByteArray := prog_2_method_4_code
def yX0_turn : MethodName := ⟨RX0, "turn", "(II)V"⟩
abbrev cX0_companies : ByteArray := prog_2_method_5_code
def yX0_companies : MethodName := ⟨RX0, "companies", "(I)I"⟩
abbrev cX0_largestCompany : ByteArray := prog_2_method_6_code
def yX0_largestCompany : MethodName := ⟨RX0, "largestCompany", "()I"⟩
abbrev cX0_distance : ByteArray := prog_2_method_7_code
def yX0_distance : MethodName := ⟨RX0, "distance", "(II)I"⟩
abbrev cX0_longestWay : ByteArray := prog_2_method_8_code
def yX0_longestWay : MethodName := ⟨RX0, "longestWay", "(I)I"⟩
abbrev cX0_companyOf : ByteArray := prog_2_method_9_code
def yX0_companyOf : MethodName := ⟨RX0, "companyOf", "(II)I"⟩
abbrev cX0_further : ByteArray := prog_2_method_10_code
def yX0_further : MethodName := ⟨RX0, "further", "(I)I"⟩
def RX1 : String := "StreetTillTen$Reader"
def TX1 : u_T := fun k => match k with
  | 0 => ("StreetTillTen$Reader", "tape", "LStreetTillTen$Tape;", true)
  | 1 => ("StreetTillTen$Reader", "text", "LStreetTillTen$Text;", false)
  | 2 => ("StreetTillTen$Reader", "at", "I", false)
  | 3 => ("StreetTillTen$Reader", "token", "I", false)
  | _ => ("StreetTillTen$Reader", "fault", "I", false)
def tyX1 : Nat → FieldType := fun k => match k with
  | 0 => .object "StreetTillTen$Tape"
  | 1 => .object "StreetTillTen$Text"
  | 2 => .int
  | 3 => .int
  | _ => .int
abbrev wsX10 : List Cond := u_ws RX1 TX1 5
theorem nmX1 : ∀ a, a < 5 → ∀ b, b < 5 → a ≠ b → (TX1 a).2.1 ≠ (TX1 b).2.1 := by decide +kernel
theorem tyX1_ok : ∀ k, k < 5 → parseFieldDescriptor (TX1 k).2.2.1 = some (tyX1 k) := by decide +kernel
abbrev cX1_init : ByteArray := prog_3_method_1_code
def yX1_init : MethodName := ⟨RX1, "<init>", "(LStreetTillTen$Tape;LStreetTillTen$Text;)V"⟩
abbrev cX1_readInto : ByteArray := prog_3_method_2_code
def yX1_readInto : MethodName := ⟨RX1, "readInto", "(LStreetTillTen$Text;)I"⟩
abbrev cX1_readPart : ByteArray := prog_3_method_3_code
def yX1_readPart : MethodName := ⟨RX1, "readPart", "(II)V"⟩
abbrev cX1_read : ByteArray := prog_3_method_4_code
def yX1_read : MethodName := ⟨RX1, "read", "(II)V"⟩
abbrev cX1_readOne : ByteArray := prog_3_method_5_code
def yX1_readOne : MethodName := ⟨RX1, "readOne", "(I)V"⟩
abbrev cX1_opens : ByteArray := prog_3_method_6_code
def yX1_opens : MethodName := ⟨RX1, "opens", "(I)Z"⟩
abbrev cX1_expect : ByteArray := prog_3_method_7_code
def yX1_expect : MethodName := ⟨RX1, "expect", "(I)V"⟩
abbrev cX1_next : ByteArray := prog_3_method_8_code
def yX1_next : MethodName := ⟨RX1, "next", "()V"⟩
abbrev cX1_fail : ByteArray := prog_3_method_9_code
def yX1_fail : MethodName := ⟨RX1, "fail", "()V"⟩
abbrev cX1_levelOf : ByteArray := prog_3_method_10_code
def yX1_levelOf : MethodName := ⟨RX1, "levelOf", "(I)I"⟩
abbrev cX1_operationOf : ByteArray := prog_3_method_11_code
def yX1_operationOf : MethodName := ⟨RX1, "operationOf", "(I)I"⟩
def RX2 : String := "StreetTillTen$Sheet"
def TX2 : u_T := fun k => match k with
  | 0 => ("StreetTillTen$Sheet", "sort", "I", false)
  | 1 => ("StreetTillTen$Sheet", "size", "I", false)
  | _ => ("StreetTillTen$Sheet", "items", "[I", true)
def tyX2 : Nat → FieldType := fun k => match k with
  | 0 => .int
  | 1 => .int
  | _ => .array .int
abbrev wsX20 : List Cond := u_ws RX2 TX2 3
theorem nmX2 : ∀ a, a < 3 → ∀ b, b < 3 → a ≠ b → (TX2 a).2.1 ≠ (TX2 b).2.1 := by decide +kernel
theorem tyX2_ok : ∀ k, k < 3 → parseFieldDescriptor (TX2 k).2.2.1 = some (tyX2 k) := by decide +kernel
abbrev cX2_init : ByteArray := prog_4_method_1_code
def yX2_init : MethodName := ⟨RX2, "<init>", "()V"⟩
abbrev cX2_isMissing : ByteArray := prog_4_method_2_code
def yX2_isMissing : MethodName := ⟨RX2, "isMissing", "()Z"⟩
abbrev cX2_lay : ByteArray := prog_4_method_3_code
def yX2_lay : MethodName := ⟨RX2, "lay", "(II)V"⟩
abbrev cX2_holds : ByteArray := prog_4_method_4_code
def yX2_holds : MethodName := ⟨RX2, "holds", "(II)Z"⟩
abbrev cX2_put : ByteArray := prog_4_method_5_code
def yX2_put : MethodName := ⟨RX2, "put", "(II)V"⟩
abbrev cX2_unlikeItems : ByteArray := prog_4_method_6_code
def yX2_unlikeItems : MethodName := ⟨RX2, "unlikeItems", "([I)I"⟩
def RX3 : String := "StreetTillTen$Street"
def TX3 : u_T := fun k => match k with
  | 0 => ("StreetTillTen$Street", "year", "I", false)
  | 1 => ("StreetTillTen$Street", "limit", "I", false)
  | 2 => ("StreetTillTen$Street", "count", "I", false)
  | 3 => ("StreetTillTen$Street", "rule", "LStreetTillTen$Text;", false)
  | 4 => ("StreetTillTen$Street", "kind", "[I", true)
  | 5 => ("StreetTillTen$Street", "number", "[I", true)
  | 6 => ("StreetTillTen$Street", "table", "[I", true)
  | 7 => ("StreetTillTen$Street", "strength", "[[I", true)
  | _ => ("StreetTillTen$Street", "names", "[I", true)
def tyX3 : Nat → FieldType := fun k => match k with
  | 0 => .int
  | 1 => .int
  | 2 => .int
  | 3 => .object "StreetTillTen$Text"
  | 4 => .array .int
  | 5 => .array .int
  | 6 => .array .int
  | 7 => .array (.array .int)
  | _ => .array .int
abbrev wsX30 : List Cond := u_ws RX3 TX3 9
theorem nmX3 : ∀ a, a < 9 → ∀ b, b < 9 → a ≠ b → (TX3 a).2.1 ≠ (TX3 b).2.1 := by decide +kernel
theorem tyX3_ok : ∀ k, k < 9 → parseFieldDescriptor (TX3 k).2.2.1 = some (tyX3 k) := by decide +kernel
abbrev cX3_init : ByteArray := prog_5_method_1_code
def yX3_init : MethodName := ⟨RX3, "<init>", "(LStreetTillTen$Text;)V"⟩
abbrev cX3_become : ByteArray := prog_5_method_2_code
def yX3_become : MethodName := ⟨RX3, "become", "(LStreetTillTen$Street;)V"⟩
abbrev cX3_add : ByteArray := prog_5_method_3_code
def yX3_add : MethodName := ⟨RX3, "add", "(II)V"⟩
abbrev cX3_tie : ByteArray := prog_5_method_4_code
def yX3_tie : MethodName := ⟨RX3, "tie", "(III)V"⟩
abbrev cX3_knows : ByteArray := prog_5_method_5_code
def yX3_knows : MethodName := ⟨RX3, "knows", "(II)Z"⟩
abbrev cX3_acquaintances : ByteArray := prog_5_method_6_code
def yX3_acquaintances : MethodName := ⟨RX3, "acquaintances", "(I)I"⟩
abbrev cX3_friends : ByteArray := prog_5_method_7_code
def yX3_friends : MethodName := ⟨RX3, "friends", "()I"⟩
abbrev cX3_allStrength : ByteArray := prog_5_method_8_code
def yX3_allStrength : MethodName := ⟨RX3, "allStrength", "()I"⟩
abbrev cX3_seatsAt : ByteArray := prog_5_method_9_code
def yX3_seatsAt : MethodName := ⟨RX3, "seatsAt", "(I)I"⟩
abbrev cX3_seated : ByteArray := prog_5_method_10_code
def yX3_seated : MethodName := ⟨RX3, "seated", "()I"⟩
abbrev cX3_meets : ByteArray := prog_5_method_11_code
def yX3_meets : MethodName := ⟨RX3, "meets", "(II)I"⟩
abbrev cX3_forgets : ByteArray := prog_5_method_12_code
def yX3_forgets : MethodName := ⟨RX3, "forgets", "(II)I"⟩
abbrev cX3_sounds : ByteArray := prog_5_method_13_code
def yX3_sounds : MethodName := ⟨RX3, "sounds", "(I)I"⟩
abbrev cX3_look : ByteArray := prog_5_method_14_code
def yX3_look : MethodName := ⟨RX3, "look", "(II)V"⟩
abbrev cX3_holdFeast : ByteArray := prog_5_method_15_code
def yX3_holdFeast : MethodName := ⟨RX3, "holdFeast", "()V"⟩
abbrev cX3_endYear : ByteArray := prog_5_method_16_code
def yX3_endYear : MethodName := ⟨RX3, "endYear", "()V"⟩
abbrev cX3_pass : ByteArray := prog_5_method_17_code
def yX3_pass : MethodName := ⟨RX3, "pass", "(I)I"⟩
abbrev cX3_quietTable : ByteArray := prog_5_method_18_code
def yX3_quietTable : MethodName := ⟨RX3, "quietTable", "()I"⟩
abbrev cX3_dinAt : ByteArray := prog_5_method_19_code
def yX3_dinAt : MethodName := ⟨RX3, "dinAt", "(I)I"⟩
def RX4 : String := "StreetTillTen$Tape"
def TX4 : u_T := fun k => match k with
  | 0 => ("StreetTillTen$Tape", "size", "I", false)
  | 1 => ("StreetTillTen$Tape", "tokens", "[I", true)
  | 2 => ("StreetTillTen$Tape", "starts", "[I", true)
  | 3 => ("StreetTillTen$Tape", "steps", "[I", true)
  | 4 => ("StreetTillTen$Tape", "letters", "[I", true)
  | _ => ("StreetTillTen$Tape", "at", "I", false)
def tyX4 : Nat → FieldType := fun k => match k with
  | 0 => .int
  | 1 => .array .int
  | 2 => .array .int
  | 3 => .array .int
  | 4 => .array .int
  | _ => .int
abbrev wsX40 : List Cond := u_ws RX4 TX4 6
theorem nmX4 : ∀ a, a < 6 → ∀ b, b < 6 → a ≠ b → (TX4 a).2.1 ≠ (TX4 b).2.1 := by decide +kernel
theorem tyX4_ok : ∀ k, k < 6 → parseFieldDescriptor (TX4 k).2.2.1 = some (tyX4 k) := by decide +kernel
abbrev cX4_init : ByteArray := prog_6_method_1_code
def yX4_init : MethodName := ⟨RX4, "<init>", "()V"⟩
abbrev cX4_put : ByteArray := prog_6_method_2_code
def yX4_put : MethodName := ⟨RX4, "put", "(I)Z"⟩
abbrev cX4_empty : ByteArray := prog_6_method_3_code
def yX4_empty : MethodName := ⟨RX4, "empty", "()V"⟩
abbrev cX4_cut : ByteArray := prog_6_method_4_code
def yX4_cut : MethodName := ⟨RX4, "cut", "()V"⟩
abbrev cX4_cutNumber : ByteArray := prog_6_method_5_code
def yX4_cutNumber : MethodName := ⟨RX4, "cutNumber", "(I)V"⟩
abbrev cX4_cutWord : ByteArray := prog_6_method_6_code
def yX4_cutWord : MethodName := ⟨RX4, "cutWord", "(I)V"⟩
abbrev cX4_nameFrom : ByteArray := prog_6_method_7_code
def yX4_nameFrom : MethodName := ⟨RX4, "nameFrom", "(I)I"⟩
abbrev cX4_keyFrom : ByteArray := prog_6_method_8_code
def yX4_keyFrom : MethodName := ⟨RX4, "keyFrom", "(I)I"⟩
abbrev cX4_reads : ByteArray := prog_6_method_9_code
def yX4_reads : MethodName := ⟨RX4, "reads", "(Ljava/lang/String;I)Z"⟩
abbrev cX4_isBlank : ByteArray := prog_6_method_10_code
def yX4_isBlank : MethodName := ⟨RX4, "isBlank", "(I)Z"⟩
abbrev cX4_isDigit : ByteArray := prog_6_method_11_code
def yX4_isDigit : MethodName := ⟨RX4, "isDigit", "(I)Z"⟩
abbrev cX4_isSmall : ByteArray := prog_6_method_12_code
def yX4_isSmall : MethodName := ⟨RX4, "isSmall", "(I)Z"⟩
def RX5 : String := "StreetTillTen$Text"
def TX5 : u_T := fun k => match k with
  | 0 => ("StreetTillTen$Text", "place", "I", true)
  | 1 => ("StreetTillTen$Text", "size", "I", false)
  | 2 => ("StreetTillTen$Text", "steps", "[I", true)
  | 3 => ("StreetTillTen$Text", "ends", "[I", true)
  | _ => ("StreetTillTen$Text", "pile", "[I", true)
def tyX5 : Nat → FieldType := fun k => match k with
  | 0 => .int
  | 1 => .int
  | 2 => .array .int
  | 3 => .array .int
  | _ => .array .int
abbrev wsX50 : List Cond := u_ws RX5 TX5 5
theorem nmX5 : ∀ a, a < 5 → ∀ b, b < 5 → a ≠ b → (TX5 a).2.1 ≠ (TX5 b).2.1 := by decide +kernel
theorem tyX5_ok : ∀ k, k < 5 → parseFieldDescriptor (TX5 k).2.2.1 = some (tyX5 k) := by decide +kernel
abbrev cX5_init : ByteArray := prog_7_method_1_code
def yX5_init : MethodName := ⟨RX5, "<init>", "(I)V"⟩
abbrev cX5_clear : ByteArray := prog_7_method_2_code
def yX5_clear : MethodName := ⟨RX5, "clear", "()V"⟩
abbrev cX5_write : ByteArray := prog_7_method_3_code
def yX5_write : MethodName := ⟨RX5, "write", "(I)V"⟩
abbrev cX5_endPart : ByteArray := prog_7_method_4_code
def yX5_endPart : MethodName := ⟨RX5, "endPart", "(I)V"⟩
abbrev cX5_value : ByteArray := prog_7_method_5_code
def yX5_value : MethodName := ⟨RX5, "value", "(I[I)I"⟩
abbrev cX5_turned : ByteArray := prog_7_method_6_code
def yX5_turned : MethodName := ⟨RX5, "turned", "(II)I"⟩
abbrev cX5_joined : ByteArray := prog_7_method_7_code
def yX5_joined : MethodName := ⟨RX5, "joined", "(III)I"⟩
def RX6 : String := "StreetTillTen"
def TX6 : u_T := fun k => match k with
  | 0 => ("StreetTillTen", "tape", "LStreetTillTen$Tape;", true)
  | 1 => ("StreetTillTen", "reader", "LStreetTillTen$Reader;", true)
  | 2 => ("StreetTillTen", "texts", "[LStreetTillTen$Text;", true)
  | 3 => ("StreetTillTen", "textCount", "I", false)
  | 4 => ("StreetTillTen", "now", "LStreetTillTen$Street;", true)
  | 5 => ("StreetTillTen", "thought", "LStreetTillTen$Street;", true)
  | 6 => ("StreetTillTen", "kept", "LStreetTillTen$Street;", true)
  | 7 => ("StreetTillTen", "hasImage", "Z", false)
  | 8 => ("StreetTillTen", "circle", "LStreetTillTen$Circle;", true)
  | _ => ("StreetTillTen", "sheets", "[LStreetTillTen$Sheet;", true)
def tyX6 : Nat → FieldType := fun k => match k with
  | 0 => .object "StreetTillTen$Tape"
  | 1 => .object "StreetTillTen$Reader"
  | 2 => .array (.object "StreetTillTen$Text")
  | 3 => .int
  | 4 => .object "StreetTillTen$Street"
  | 5 => .object "StreetTillTen$Street"
  | 6 => .object "StreetTillTen$Street"
  | 7 => .boolean
  | 8 => .object "StreetTillTen$Circle"
  | _ => .array (.object "StreetTillTen$Sheet")
abbrev wsX60 : List Cond := u_ws RX6 TX6 10
theorem nmX6 : ∀ a, a < 10 → ∀ b, b < 10 → a ≠ b → (TX6 a).2.1 ≠ (TX6 b).2.1 := by decide +kernel
theorem tyX6_ok : ∀ k, k < 10 → parseFieldDescriptor (TX6 k).2.2.1 = some (tyX6 k) := by decide +kernel
abbrev cX6_init : ByteArray := prog_1_method_1_code
def yX6_init : MethodName := ⟨RX6, "<init>", "()V"⟩
abbrev cX6_set : ByteArray := prog_1_method_2_code
def yX6_set : MethodName := ⟨RX6, "set", "(III)I"⟩
abbrev cX6_house : ByteArray := prog_1_method_3_code
def yX6_house : MethodName := ⟨RX6, "house", "(II)I"⟩
abbrev cX6_bind : ByteArray := prog_1_method_4_code
def yX6_bind : MethodName := ⟨RX6, "bind", "(III)I"⟩
abbrev cX6_told : ByteArray := prog_1_method_5_code
def yX6_told : MethodName := ⟨RX6, "told", "(II)I"⟩
abbrev cX6_feed : ByteArray := prog_1_method_6_code
def yX6_feed : MethodName := ⟨RX6, "feed", "(I)I"⟩
abbrev cX6_text : ByteArray := prog_1_method_7_code
def yX6_text : MethodName := ⟨RX6, "text", "()I"⟩
abbrev cX6_force : ByteArray := prog_1_method_8_code
def yX6_force : MethodName := ⟨RX6, "force", "(I)I"⟩
abbrev cX6_asks : ByteArray := prog_1_method_9_code
def yX6_asks : MethodName := ⟨RX6, "asks", "(III)I"⟩
abbrev cX6_feast : ByteArray := prog_1_method_10_code
def yX6_feast : MethodName := ⟨RX6, "feast", "()I"⟩
abbrev cX6_year : ByteArray := prog_1_method_11_code
def yX6_year : MethodName := ⟨RX6, "year", "()I"⟩
abbrev cX6_street : ByteArray := prog_1_method_12_code
def yX6_street : MethodName := ⟨RX6, "street", "(I)I"⟩
abbrev cX6_way : ByteArray := prog_1_method_13_code
def yX6_way : MethodName := ⟨RX6, "way", "(II)I"⟩
abbrev cX6_run : ByteArray := prog_1_method_14_code
def yX6_run : MethodName := ⟨RX6, "run", "(II)I"⟩
abbrev cX6_takes : ByteArray := prog_1_method_15_code
def yX6_takes : MethodName := ⟨RX6, "takes", "(I)I"⟩
abbrev cX6_best : ByteArray := prog_1_method_16_code
def yX6_best : MethodName := ⟨RX6, "best", "(III)I"⟩
abbrev cX6_change : ByteArray := prog_1_method_17_code
def yX6_change : MethodName := ⟨RX6, "change", "(II)I"⟩
abbrev cX6_split : ByteArray := prog_1_method_18_code
def yX6_split : MethodName := ⟨RX6, "split", "(II)I"⟩
abbrev cX6_missed : ByteArray := prog_1_method_19_code
def yX6_missed : MethodName := ⟨RX6, "missed", "(I)I"⟩
abbrev cX6_match : ByteArray := prog_1_method_20_code
def yX6_match : MethodName := ⟨RX6, "match", "(I)I"⟩
abbrev cX6_tells : ByteArray := prog_1_method_21_code
def yX6_tells : MethodName := ⟨RX6, "tells", "(III)I"⟩
abbrev cX6_film : ByteArray := prog_1_method_22_code
def yX6_film : MethodName := ⟨RX6, "film", "(II)I"⟩
abbrev cX6_drawn : ByteArray := prog_1_method_23_code
def yX6_drawn : MethodName := ⟨RX6, "drawn", "(II)I"⟩
abbrev cX6_chance : ByteArray := prog_1_method_24_code
def yX6_chance : MethodName := ⟨RX6, "chance", "(IIII)J"⟩
abbrev cX6_image : ByteArray := prog_1_method_25_code
def yX6_image : MethodName := ⟨RX6, "image", "()I"⟩
abbrev cX6_back : ByteArray := prog_1_method_26_code
def yX6_back : MethodName := ⟨RX6, "back", "()I"⟩
abbrev cX6_count : ByteArray := prog_1_method_27_code
def yX6_count : MethodName := ⟨RX6, "count", "(I)I"⟩
abbrev cX6_sheet : ByteArray := prog_1_method_28_code
def yX6_sheet : MethodName := ⟨RX6, "sheet", "(III)I"⟩
abbrev cX6_cell : ByteArray := prog_1_method_29_code
def yX6_cell : MethodName := ⟨RX6, "cell", "(III)I"⟩
abbrev cX6_copy : ByteArray := prog_1_method_30_code
def yX6_copy : MethodName := ⟨RX6, "copy", "(IIIII)I"⟩
abbrev cX6_houses : ByteArray := prog_1_method_31_code
def yX6_houses : MethodName := ⟨RX6, "houses", "(IIII)I"⟩
abbrev cX6_taken : ByteArray := prog_1_method_32_code
def yX6_taken : MethodName := ⟨RX6, "taken", "(II)I"⟩
abbrev cX6_isHouse : ByteArray := prog_1_method_33_code
def yX6_isHouse : MethodName := ⟨RX6, "isHouse", "(I)Z"⟩
abbrev cX6_isTwo : ByteArray := prog_1_method_34_code
def yX6_isTwo : MethodName := ⟨RX6, "isTwo", "(II)Z"⟩
abbrev cX6_isSheet : ByteArray := prog_1_method_35_code
def yX6_isSheet : MethodName := ⟨RX6, "isSheet", "(I)Z"⟩
abbrev cX6_isSort : ByteArray := prog_1_method_36_code
def yX6_isSort : MethodName := ⟨RX6, "isSort", "(I)Z"⟩
abbrev cX6_isYears : ByteArray := prog_1_method_37_code
def yX6_isYears : MethodName := ⟨RX6, "isYears", "(I)Z"⟩
abbrev cX6_isFriends : ByteArray := prog_1_method_38_code
def yX6_isFriends : MethodName := ⟨RX6, "isFriends", "(I)Z"⟩
abbrev cX6_isEither : ByteArray := prog_1_method_39_code
def yX6_isEither : MethodName := ⟨RX6, "isEither", "(I)Z"⟩
abbrev cX6_isUnder : ByteArray := prog_1_method_40_code
def yX6_isUnder : MethodName := ⟨RX6, "isUnder", "(II)Z"⟩
abbrev cX6_setting : ByteArray := prog_1_method_41_code
def yX6_setting : MethodName := ⟨RX6, "setting", "(II)I"⟩
abbrev cX6_settle : ByteArray := prog_1_method_42_code
def yX6_settle : MethodName := ⟨RX6, "settle", "(II)I"⟩
abbrev cX6_figure : ByteArray := prog_1_method_43_code
def yX6_figure : MethodName := ⟨RX6, "figure", "(LStreetTillTen$Street;I)I"⟩
abbrev cX6_canChange : ByteArray := prog_1_method_44_code
def yX6_canChange : MethodName := ⟨RX6, "canChange", "(II)Z"⟩
abbrev cX6_friendsDrawn : ByteArray := prog_1_method_45_code
def yX6_friendsDrawn : MethodName := ⟨RX6, "friendsDrawn", "(II)I"⟩
abbrev cX6_commonDivisor : ByteArray := prog_1_method_46_code
def yX6_commonDivisor : MethodName := ⟨RX6, "commonDivisor", "(II)I"⟩
abbrev cX6_otherwise : ByteArray := prog_1_method_47_code
def yX6_otherwise : MethodName := ⟨RX6, "otherwise", "(LStreetTillTen$Sheet;I)I"⟩
abbrev cX6_possible : ByteArray := prog_1_method_48_code
def yX6_possible : MethodName := ⟨RX6, "possible", "(LStreetTillTen$Sheet;II)I"⟩
abbrev cX6_choices : ByteArray := prog_1_method_49_code
def yX6_choices : MethodName := ⟨RX6, "choices", "(I)I"⟩
abbrev cX6_suppose : ByteArray := prog_1_method_50_code
def yX6_suppose : MethodName := ⟨RX6, "suppose", "(III)V"⟩
abbrev cX6_limits : ByteArray := prog_1_method_51_code
def yX6_limits : MethodName := ⟨RX6, "limits", "(LStreetTillTen$Sheet;I)I"⟩
abbrev cX6_leastLimit : ByteArray := prog_1_method_52_code
def yX6_leastLimit : MethodName := ⟨RX6, "leastLimit", "(LStreetTillTen$Sheet;I)I"⟩
abbrev cX6_fits : ByteArray := prog_1_method_53_code
def yX6_fits : MethodName := ⟨RX6, "fits", "(LStreetTillTen$Sheet;II)Z"⟩
def RX7 : String := "StreetTillTenModel"
def TX7 : u_T := fun k => match k with
  | 0 => ("StreetTillTenModel", "thrown", "I", false)
  | 1 => ("StreetTillTenModel", "texts", "[I", true)
  | 2 => ("StreetTillTenModel", "textSize", "[I", true)
  | 3 => ("StreetTillTenModel", "textCount", "I", false)
  | 4 => ("StreetTillTenModel", "rule", "I", false)
  | 5 => ("StreetTillTenModel", "tape", "[I", true)
  | 6 => ("StreetTillTenModel", "taped", "I", false)
  | 7 => ("StreetTillTenModel", "yearNow", "I", false)
  | 8 => ("StreetTillTenModel", "limit", "I", false)
  | 9 => ("StreetTillTenModel", "kinds", "[I", true)
  | 10 => ("StreetTillTenModel", "numbers", "[I", true)
  | 11 => ("StreetTillTenModel", "tables", "[I", true)
  | 12 => ("StreetTillTenModel", "strengths", "[I", true)
  | 13 => ("StreetTillTenModel", "many", "I", false)
  | 14 => ("StreetTillTenModel", "ofStrength", "I", false)
  | 15 => ("StreetTillTenModel", "ofNumber", "I", false)
  | 16 => ("StreetTillTenModel", "ofOther", "I", false)
  | 17 => ("StreetTillTenModel", "ofSeats", "I", false)
  | 18 => ("StreetTillTenModel", "ofYear", "I", false)
  | 19 => ("StreetTillTenModel", "ofApart", "I", false)
  | 20 => ("StreetTillTenModel", "from", "I", false)
  | 21 => ("StreetTillTenModel", "size", "I", false)
  | 22 => ("StreetTillTenModel", "here", "I", false)
  | 23 => ("StreetTillTenModel", "token", "I", false)
  | 24 => ("StreetTillTenModel", "tokenAt", "I", false)
  | 25 => ("StreetTillTenModel", "tokenWorth", "J", false)
  | 26 => ("StreetTillTenModel", "open", "I", false)
  | 27 => ("StreetTillTenModel", "bad", "Z", false)
  | 28 => ("StreetTillTenModel", "fault", "I", false)
  | 29 => ("StreetTillTenModel", "extraA", "I", false)
  | 30 => ("StreetTillTenModel", "extraB", "I", false)
  | 31 => ("StreetTillTenModel", "gone", "I", false)
  | 32 => ("StreetTillTenModel", "ways", "[I", true)
  | 33 => ("StreetTillTenModel", "strengthsWas", "[I", true)
  | 34 => ("StreetTillTenModel", "yearWas", "I", false)
  | 35 => ("StreetTillTenModel", "tablesWas", "[I", true)
  | 36 => ("StreetTillTenModel", "numbersKept", "[I", true)
  | 37 => ("StreetTillTenModel", "tablesKept", "[I", true)
  | 38 => ("StreetTillTenModel", "strengthsKept", "[I", true)
  | 39 => ("StreetTillTenModel", "manyKept", "I", false)
  | 40 => ("StreetTillTenModel", "yearKept", "I", false)
  | 41 => ("StreetTillTenModel", "limitKept", "I", false)
  | 42 => ("StreetTillTenModel", "ruleKept", "I", false)
  | 43 => ("StreetTillTenModel", "isThere", "[Z", true)
  | 44 => ("StreetTillTenModel", "sorts", "[I", true)
  | 45 => ("StreetTillTenModel", "sheetSize", "[I", true)
  | _ => ("StreetTillTenModel", "items", "[I", true)
def tyX7 : Nat → FieldType := fun k => match k with
  | 0 => .int
  | 1 => .array .int
  | 2 => .array .int
  | 3 => .int
  | 4 => .int
  | 5 => .array .int
  | 6 => .int
  | 7 => .int
  | 8 => .int
  | 9 => .array .int
  | 10 => .array .int
  | 11 => .array .int
  | 12 => .array .int
  | 13 => .int
  | 14 => .int
  | 15 => .int
  | 16 => .int
  | 17 => .int
  | 18 => .int
  | 19 => .int
  | 20 => .int
  | 21 => .int
  | 22 => .int
  | 23 => .int
  | 24 => .int
  | 25 => .long
  | 26 => .int
  | 27 => .boolean
  | 28 => .int
  | 29 => .int
  | 30 => .int
  | 31 => .int
  | 32 => .array .int
  | 33 => .array .int
  | 34 => .int
  | 35 => .array .int
  | 36 => .array .int
  | 37 => .array .int
  | 38 => .array .int
  | 39 => .int
  | 40 => .int
  | 41 => .int
  | 42 => .int
  | 43 => .array .boolean
  | 44 => .array .int
  | 45 => .array .int
  | _ => .array .int
abbrev wsX70 : List Cond := u_ws RX7 TX7 47
theorem nmX7 : ∀ a, a < 47 → ∀ b, b < 47 → a ≠ b → (TX7 a).2.1 ≠ (TX7 b).2.1 := by decide +kernel
theorem tyX7_ok : ∀ k, k < 47 → parseFieldDescriptor (TX7 k).2.2.1 = some (tyX7 k) := by decide +kernel
abbrev cX7_in : ByteArray := prog_9_method_2_code
def yX7_in : MethodName := ⟨RX7, "in", "(JJJ)Z"⟩
abbrev cX7_within : ByteArray := prog_9_method_3_code
def yX7_within : MethodName := ⟨RX7, "within", "(III)I"⟩
abbrev cX7_init : ByteArray := prog_9_method_4_code
def yX7_init : MethodName := ⟨RX7, "<init>", "()V"⟩
abbrev cX7_spell : ByteArray := prog_9_method_5_code
def yX7_spell : MethodName := ⟨RX7, "spell", "(IIIIIIIII)V"⟩
abbrev cX7_isHouse : ByteArray := prog_9_method_6_code
def yX7_isHouse : MethodName := ⟨RX7, "isHouse", "(I)Z"⟩
abbrev cX7_isValue : ByteArray := prog_9_method_7_code
def yX7_isValue : MethodName := ⟨RX7, "isValue", "(II)Z"⟩
abbrev cX7_set : ByteArray := prog_9_method_8_code
def yX7_set : MethodName := ⟨RX7, "set", "(III)I"⟩
abbrev cX7_lays : ByteArray := prog_9_method_9_code
def yX7_lays : MethodName := ⟨RX7, "lays", "(III)V"⟩
abbrev cX7_strengthOf : ByteArray := prog_9_method_10_code
def yX7_strengthOf : MethodName := ⟨RX7, "strengthOf", "(II)I"⟩
abbrev cX7_binds : ByteArray := prog_9_method_11_code
def yX7_binds : MethodName := ⟨RX7, "binds", "(III)V"⟩
abbrev cX7_house : ByteArray := prog_9_method_12_code
def yX7_house : MethodName := ⟨RX7, "house", "(II)I"⟩
abbrev cX7_areTwo : ByteArray := prog_9_method_13_code
def yX7_areTwo : MethodName := ⟨RX7, "areTwo", "(II)Z"⟩
abbrev cX7_bind : ByteArray := prog_9_method_14_code
def yX7_bind : MethodName := ⟨RX7, "bind", "(III)I"⟩
abbrev cX7_told : ByteArray := prog_9_method_15_code
def yX7_told : MethodName := ⟨RX7, "told", "(II)I"⟩
abbrev cX7_seatsOf : ByteArray := prog_9_method_16_code
def yX7_seatsOf : MethodName := ⟨RX7, "seatsOf", "(I)I"⟩
abbrev cX7_feed : ByteArray := prog_9_method_17_code
def yX7_feed : MethodName := ⟨RX7, "feed", "(I)I"⟩
abbrev cX7_byteAt : ByteArray := prog_9_method_18_code
def yX7_byteAt : MethodName := ⟨RX7, "byteAt", "(I)I"⟩
abbrev cX7_next : ByteArray := prog_9_method_19_code
def yX7_next : MethodName := ⟨RX7, "next", "()V"⟩
abbrev cX7_fail : ByteArray := prog_9_method_20_code
def yX7_fail : MethodName := ⟨RX7, "fail", "()V"⟩
abbrev cX7_isLetter : ByteArray := prog_9_method_21_code
def yX7_isLetter : MethodName := ⟨RX7, "isLetter", "(II)Z"⟩
abbrev cX7_isWord : ByteArray := prog_9_method_22_code
def yX7_isWord : MethodName := ⟨RX7, "isWord", "(IIIIIIII)Z"⟩
abbrev cX7_isSign : ByteArray := prog_9_method_23_code
def yX7_isSign : MethodName := ⟨RX7, "isSign", "(I)Z"⟩
abbrev cX7_opens : ByteArray := prog_9_method_24_code
def yX7_opens : MethodName := ⟨RX7, "opens", "()Z"⟩
abbrev cX7_name : ByteArray := prog_9_method_25_code
def yX7_name : MethodName := ⟨RX7, "name", "()I"⟩
abbrev cX7_atom5 : ByteArray := prog_9_method_26_code
def yX7_atom5 : MethodName := ⟨RX7, "atom5", "()I"⟩
abbrev cX7_term5 : ByteArray := prog_9_method_27_code
def yX7_term5 : MethodName := ⟨RX7, "term5", "()I"⟩
abbrev cX7_added5 : ByteArray := prog_9_method_28_code
def yX7_added5 : MethodName := ⟨RX7, "added5", "()I"⟩
abbrev cX7_not5 : ByteArray := prog_9_method_29_code
def yX7_not5 : MethodName := ⟨RX7, "not5", "()I"⟩
abbrev cX7_both5 : ByteArray := prog_9_method_30_code
def yX7_both5 : MethodName := ⟨RX7, "both5", "()I"⟩
abbrev cX7_either5 : ByteArray := prog_9_method_31_code
def yX7_either5 : MethodName := ⟨RX7, "either5", "()I"⟩
abbrev cX7_atom4 : ByteArray := prog_9_method_32_code
def yX7_atom4 : MethodName := ⟨RX7, "atom4", "()I"⟩
abbrev cX7_term4 : ByteArray := prog_9_method_33_code
def yX7_term4 : MethodName := ⟨RX7, "term4", "()I"⟩
abbrev cX7_added4 : ByteArray := prog_9_method_34_code
def yX7_added4 : MethodName := ⟨RX7, "added4", "()I"⟩
abbrev cX7_not4 : ByteArray := prog_9_method_35_code
def yX7_not4 : MethodName := ⟨RX7, "not4", "()I"⟩
abbrev cX7_both4 : ByteArray := prog_9_method_36_code
def yX7_both4 : MethodName := ⟨RX7, "both4", "()I"⟩
abbrev cX7_either4 : ByteArray := prog_9_method_37_code
def yX7_either4 : MethodName := ⟨RX7, "either4", "()I"⟩
abbrev cX7_atom3 : ByteArray := prog_9_method_38_code
def yX7_atom3 : MethodName := ⟨RX7, "atom3", "()I"⟩
abbrev cX7_term3 : ByteArray := prog_9_method_39_code
def yX7_term3 : MethodName := ⟨RX7, "term3", "()I"⟩
abbrev cX7_added3 : ByteArray := prog_9_method_40_code
def yX7_added3 : MethodName := ⟨RX7, "added3", "()I"⟩
abbrev cX7_not3 : ByteArray := prog_9_method_41_code
def yX7_not3 : MethodName := ⟨RX7, "not3", "()I"⟩
abbrev cX7_both3 : ByteArray := prog_9_method_42_code
def yX7_both3 : MethodName := ⟨RX7, "both3", "()I"⟩
abbrev cX7_either3 : ByteArray := prog_9_method_43_code
def yX7_either3 : MethodName := ⟨RX7, "either3", "()I"⟩
abbrev cX7_atom2 : ByteArray := prog_9_method_44_code
def yX7_atom2 : MethodName := ⟨RX7, "atom2", "()I"⟩
abbrev cX7_term2 : ByteArray := prog_9_method_45_code
def yX7_term2 : MethodName := ⟨RX7, "term2", "()I"⟩
abbrev cX7_added2 : ByteArray := prog_9_method_46_code
def yX7_added2 : MethodName := ⟨RX7, "added2", "()I"⟩
abbrev cX7_not2 : ByteArray := prog_9_method_47_code
def yX7_not2 : MethodName := ⟨RX7, "not2", "()I"⟩
abbrev cX7_both2 : ByteArray := prog_9_method_48_code
def yX7_both2 : MethodName := ⟨RX7, "both2", "()I"⟩
abbrev cX7_either2 : ByteArray := prog_9_method_49_code
def yX7_either2 : MethodName := ⟨RX7, "either2", "()I"⟩
abbrev cX7_atom1 : ByteArray := prog_9_method_50_code
def yX7_atom1 : MethodName := ⟨RX7, "atom1", "()I"⟩
abbrev cX7_term1 : ByteArray := prog_9_method_51_code
def yX7_term1 : MethodName := ⟨RX7, "term1", "()I"⟩
abbrev cX7_added1 : ByteArray := prog_9_method_52_code
def yX7_added1 : MethodName := ⟨RX7, "added1", "()I"⟩
abbrev cX7_not1 : ByteArray := prog_9_method_53_code
def yX7_not1 : MethodName := ⟨RX7, "not1", "()I"⟩
abbrev cX7_both1 : ByteArray := prog_9_method_54_code
def yX7_both1 : MethodName := ⟨RX7, "both1", "()I"⟩
abbrev cX7_either1 : ByteArray := prog_9_method_55_code
def yX7_either1 : MethodName := ⟨RX7, "either1", "()I"⟩
abbrev cX7_atom0 : ByteArray := prog_9_method_56_code
def yX7_atom0 : MethodName := ⟨RX7, "atom0", "()I"⟩
abbrev cX7_term0 : ByteArray := prog_9_method_57_code
def yX7_term0 : MethodName := ⟨RX7, "term0", "()I"⟩
abbrev cX7_added0 : ByteArray := prog_9_method_58_code
def yX7_added0 : MethodName := ⟨RX7, "added0", "()I"⟩
abbrev cX7_not0 : ByteArray := prog_9_method_59_code
def yX7_not0 : MethodName := ⟨RX7, "not0", "()I"⟩
abbrev cX7_both0 : ByteArray := prog_9_method_60_code
def yX7_both0 : MethodName := ⟨RX7, "both0", "()I"⟩
abbrev cX7_either0 : ByteArray := prog_9_method_61_code
def yX7_either0 : MethodName := ⟨RX7, "either0", "()I"⟩
abbrev cX7_part : ByteArray := prog_9_method_62_code
def yX7_part : MethodName := ⟨RX7, "part", "(Z)I"⟩
abbrev cX7_read : ByteArray := prog_9_method_63_code
def yX7_read : MethodName := ⟨RX7, "read", "(II)I"⟩
abbrev cX7_text : ByteArray := prog_9_method_64_code
def yX7_text : MethodName := ⟨RX7, "text", "()I"⟩
abbrev cX7_force : ByteArray := prog_9_method_65_code
def yX7_force : MethodName := ⟨RX7, "force", "(I)I"⟩
abbrev cX7_says : ByteArray := prog_9_method_66_code
def yX7_says : MethodName := ⟨RX7, "says", "(III)I"⟩
abbrev cX7_apart : ByteArray := prog_9_method_67_code
def yX7_apart : MethodName := ⟨RX7, "apart", "(II)I"⟩
abbrev cX7_meetsOf : ByteArray := prog_9_method_68_code
def yX7_meetsOf : MethodName := ⟨RX7, "meetsOf", "(II)I"⟩
abbrev cX7_fadesOf : ByteArray := prog_9_method_69_code
def yX7_fadesOf : MethodName := ⟨RX7, "fadesOf", "(II)I"⟩
abbrev cX7_soundsOf : ByteArray := prog_9_method_70_code
def yX7_soundsOf : MethodName := ⟨RX7, "soundsOf", "(I)I"⟩
abbrev cX7_asks : ByteArray := prog_9_method_71_code
def yX7_asks : MethodName := ⟨RX7, "asks", "(III)I"⟩
abbrev cX7_feasts : ByteArray := prog_9_method_72_code
def yX7_feasts : MethodName := ⟨RX7, "feasts", "()V"⟩
abbrev cX7_fades : ByteArray := prog_9_method_73_code
def yX7_fades : MethodName := ⟨RX7, "fades", "()V"⟩
abbrev cX7_feast : ByteArray := prog_9_method_74_code
def yX7_feast : MethodName := ⟨RX7, "feast", "()I"⟩
abbrev cX7_year : ByteArray := prog_9_method_75_code
def yX7_year : MethodName := ⟨RX7, "year", "()I"⟩
abbrev cX7_knows : ByteArray := prog_9_method_76_code
def yX7_knows : MethodName := ⟨RX7, "knows", "(II)Z"⟩
abbrev cX7_friends : ByteArray := prog_9_method_77_code
def yX7_friends : MethodName := ⟨RX7, "friends", "()I"⟩
abbrev cX7_waysAll : ByteArray := prog_9_method_78_code
def yX7_waysAll : MethodName := ⟨RX7, "waysAll", "()V"⟩
abbrev cX7_companies : ByteArray := prog_9_method_79_code
def yX7_companies : MethodName := ⟨RX7, "companies", "()I"⟩
abbrev cX7_largest : ByteArray := prog_9_method_80_code
def yX7_largest : MethodName := ⟨RX7, "largest", "()I"⟩
abbrev cX7_longest : ByteArray := prog_9_method_81_code
def yX7_longest : MethodName := ⟨RX7, "longest", "(I)I"⟩
abbrev cX7_strengthAll : ByteArray := prog_9_method_82_code
def yX7_strengthAll : MethodName := ⟨RX7, "strengthAll", "()I"⟩
abbrev cX7_quietest : ByteArray := prog_9_method_83_code
def yX7_quietest : MethodName := ⟨RX7, "quietest", "()I"⟩
abbrev cX7_tellsOf : ByteArray := prog_9_method_84_code
def yX7_tellsOf : MethodName := ⟨RX7, "tellsOf", "(I)I"⟩
abbrev cX7_street : ByteArray := prog_9_method_85_code
def yX7_street : MethodName := ⟨RX7, "street", "(I)I"⟩
abbrev cX7_way : ByteArray := prog_9_method_86_code
def yX7_way : MethodName := ⟨RX7, "way", "(II)I"⟩
abbrev cX7_laysAside : ByteArray := prog_9_method_87_code
def yX7_laysAside : MethodName := ⟨RX7, "laysAside", "()V"⟩
abbrev cX7_laysBack : ByteArray := prog_9_method_88_code
def yX7_laysBack : MethodName := ⟨RX7, "laysBack", "()V"⟩
abbrev cX7_lives : ByteArray := prog_9_method_89_code
def yX7_lives : MethodName := ⟨RX7, "lives", "(I)V"⟩
abbrev cX7_run : ByteArray := prog_9_method_90_code
def yX7_run : MethodName := ⟨RX7, "run", "(II)I"⟩
abbrev cX7_friendsBehind : ByteArray := prog_9_method_91_code
def yX7_friendsBehind : MethodName := ⟨RX7, "friendsBehind", "(I)I"⟩
abbrev cX7_takes : ByteArray := prog_9_method_92_code
def yX7_takes : MethodName := ⟨RX7, "takes", "(I)I"⟩
abbrev cX7_best : ByteArray := prog_9_method_93_code
def yX7_best : MethodName := ⟨RX7, "best", "(III)I"⟩
abbrev cX7_change : ByteArray := prog_9_method_94_code
def yX7_change : MethodName := ⟨RX7, "change", "(II)I"⟩
abbrev cX7_clears : ByteArray := prog_9_method_95_code
def yX7_clears : MethodName := ⟨RX7, "clears", "()V"⟩
abbrev cX7_sitsAgain : ByteArray := prog_9_method_96_code
def yX7_sitsAgain : MethodName := ⟨RX7, "sitsAgain", "()V"⟩
abbrev cX7_split : ByteArray := prog_9_method_97_code
def yX7_split : MethodName := ⟨RX7, "split", "(II)I"⟩
abbrev cX7_missed : ByteArray := prog_9_method_98_code
def yX7_missed : MethodName := ⟨RX7, "missed", "(I)I"⟩
abbrev cX7_match : ByteArray := prog_9_method_99_code
def yX7_match : MethodName := ⟨RX7, "match", "(I)I"⟩
abbrev cX7_unlike : ByteArray := prog_9_method_100_code
def yX7_unlike : MethodName := ⟨RX7, "unlike", "(II)I"⟩
abbrev cX7_limitsBy : ByteArray := prog_9_method_101_code
def yX7_limitsBy : MethodName := ⟨RX7, "limitsBy", "(IIZ)I"⟩
abbrev cX7_tells : ByteArray := prog_9_method_102_code
def yX7_tells : MethodName := ⟨RX7, "tells", "(III)I"⟩
abbrev cX7_film : ByteArray := prog_9_method_103_code
def yX7_film : MethodName := ⟨RX7, "film", "(II)I"⟩
abbrev cX7_friendsBy : ByteArray := prog_9_method_104_code
def yX7_friendsBy : MethodName := ⟨RX7, "friendsBy", "(II)I"⟩
abbrev cX7_drawn : ByteArray := prog_9_method_105_code
def yX7_drawn : MethodName := ⟨RX7, "drawn", "(II)I"⟩
abbrev cX7_chance : ByteArray := prog_9_method_106_code
def yX7_chance : MethodName := ⟨RX7, "chance", "(IIII)J"⟩
abbrev cX7_image : ByteArray := prog_9_method_107_code
def yX7_image : MethodName := ⟨RX7, "image", "()I"⟩
abbrev cX7_back : ByteArray := prog_9_method_108_code
def yX7_back : MethodName := ⟨RX7, "back", "()I"⟩
abbrev cX7_count : ByteArray := prog_9_method_109_code
def yX7_count : MethodName := ⟨RX7, "count", "(I)I"⟩
abbrev cX7_isSheet : ByteArray := prog_9_method_110_code
def yX7_isSheet : MethodName := ⟨RX7, "isSheet", "(I)Z"⟩
abbrev cX7_sheet : ByteArray := prog_9_method_111_code
def yX7_sheet : MethodName := ⟨RX7, "sheet", "(III)I"⟩
abbrev cX7_cell : ByteArray := prog_9_method_112_code
def yX7_cell : MethodName := ⟨RX7, "cell", "(III)I"⟩
abbrev cX7_copy : ByteArray := prog_9_method_113_code
def yX7_copy : MethodName := ⟨RX7, "copy", "(IIIII)I"⟩
abbrev cX7_houses : ByteArray := prog_9_method_114_code
def yX7_houses : MethodName := ⟨RX7, "houses", "(IIII)I"⟩
abbrev cX7_over : ByteArray := prog_9_method_115_code
def yX7_over : MethodName := ⟨RX7, "over", "(I)I"⟩
abbrev cX7_taken : ByteArray := prog_9_method_116_code
def yX7_taken : MethodName := ⟨RX7, "taken", "(II)I"⟩
def RJ6 : String := "java/lang/Integer"
def TJ6 : u_T := fun k => match k with
  | _ => ("", "", "", false)
def tyJ6 : Nat → FieldType := fun k => match k with
  | _ => .int
abbrev wsJ60 : List Cond := u_ws RJ6 TJ6 0
theorem nmJ6 : ∀ a, a < 0 → ∀ b, b < 0 → a ≠ b → (TJ6 a).2.1 ≠ (TJ6 b).2.1 := by decide +kernel
theorem tyJ6_ok : ∀ k, k < 0 → parseFieldDescriptor (TJ6 k).2.2.1 = some (tyJ6 k) := by decide +kernel
abbrev cJ6_bitCount_0f7a4 : ByteArray := prog_10_method_49_code
def yJ6_bitCount_0f7a4 : MethodName := ⟨RJ6, "bitCount", "(I)I"⟩
def RJ9 : String := "java/lang/Math"
def TJ9 : u_T := fun k => match k with
  | _ => ("", "", "", false)
def tyJ9 : Nat → FieldType := fun k => match k with
  | _ => .int
abbrev wsJ90 : List Cond := u_ws RJ9 TJ9 0
theorem nmJ9 : ∀ a, a < 0 → ∀ b, b < 0 → a ≠ b → (TJ9 a).2.1 ≠ (TJ9 b).2.1 := by decide +kernel
theorem tyJ9_ok : ∀ k, k < 0 → parseFieldDescriptor (TJ9 k).2.2.1 = some (tyJ9 k) := by decide +kernel
abbrev cJ9_abs_0f7a4 : ByteArray := prog_11_method_59_code
def yJ9_abs_0f7a4 : MethodName := ⟨RJ9, "abs", "(I)I"⟩
abbrev cJ9_max_7cf53 : ByteArray := prog_11_method_65_code
def yJ9_max_7cf53 : MethodName := ⟨RJ9, "max", "(II)I"⟩
abbrev cJ9_min_7cf53 : ByteArray := prog_11_method_69_code
def yJ9_min_7cf53 : MethodName := ⟨RJ9, "min", "(II)I"⟩
def RJ0 : String := "java/lang/String"
def TJ0 : u_T := fun k => match k with
  | _ => ("", "", "", false)
def tyJ0 : Nat → FieldType := fun k => match k with
  | _ => .int
abbrev wsJ00 : List Cond := u_ws RJ0 TJ0 0
theorem nmJ0 : ∀ a, a < 0 → ∀ b, b < 0 → a ≠ b → (TJ0 a).2.1 ≠ (TJ0 b).2.1 := by decide +kernel
theorem tyJ0_ok : ∀ k, k < 0 → parseFieldDescriptor (TJ0 k).2.2.1 = some (tyJ0 k) := by decide +kernel
abbrev cJ0_length_8abf5 : ByteArray := prog_12_method_54_code
def yJ0_length_8abf5 : MethodName := ⟨RJ0, "length", "()I"⟩
abbrev cJ0_charAt_5068e : ByteArray := prog_12_method_56_code
def yJ0_charAt_5068e : MethodName := ⟨RJ0, "charAt", "(I)C"⟩
abbrev cJ0_coder_7d493 : ByteArray := prog_12_method_152_code
def yJ0_coder_7d493 : MethodName := ⟨RJ0, "coder", "()B"⟩
abbrev cJ0_isLatin1_aae02 : ByteArray := prog_12_method_154_code
def yJ0_isLatin1_aae02 : MethodName := ⟨RJ0, "isLatin1", "()Z"⟩
abbrev cJ0_checkIndex_df160 : ByteArray := prog_12_method_155_code
def yJ0_checkIndex_df160 : MethodName := ⟨RJ0, "checkIndex", "(II)V"⟩
def RJ1 : String := "java/lang/StringLatin1"
def TJ1 : u_T := fun k => match k with
  | _ => ("", "", "", false)
def tyJ1 : Nat → FieldType := fun k => match k with
  | _ => .int
abbrev wsJ10 : List Cond := u_ws RJ1 TJ1 0
theorem nmJ1 : ∀ a, a < 0 → ∀ b, b < 0 → a ≠ b → (TJ1 a).2.1 ≠ (TJ1 b).2.1 := by decide +kernel
theorem tyJ1_ok : ∀ k, k < 0 → parseFieldDescriptor (TJ1 k).2.2.1 = some (tyJ1 k) := by decide +kernel
abbrev cJ1_charAt_3b067 : ByteArray := prog_13_method_2_code
def yJ1_charAt_3b067 : MethodName := ⟨RJ1, "charAt", "([BI)C"⟩
def RJ2 : String := "java/lang/StringUTF16"
def TJ2 : u_T := fun k => match k with
  | _ => ("", "", "", false)
def tyJ2 : Nat → FieldType := fun k => match k with
  | _ => .int
abbrev wsJ20 : List Cond := u_ws RJ2 TJ2 0
theorem nmJ2 : ∀ a, a < 0 → ∀ b, b < 0 → a ≠ b → (TJ2 a).2.1 ≠ (TJ2 b).2.1 := by decide +kernel
theorem tyJ2_ok : ∀ k, k < 0 → parseFieldDescriptor (TJ2 k).2.2.1 = some (tyJ2 k) := by decide +kernel
abbrev cJ2_getChar_3b067 : ByteArray := prog_14_method_5_code
def yJ2_getChar_3b067 : MethodName := ⟨RJ2, "getChar", "([BI)C"⟩
abbrev cJ2_length_9d52b : ByteArray := prog_14_method_6_code
def yJ2_length_9d52b : MethodName := ⟨RJ2, "length", "([B)I"⟩
abbrev cJ2_charAt_3b067 : ByteArray := prog_14_method_83_code
def yJ2_charAt_3b067 : MethodName := ⟨RJ2, "charAt", "([BI)C"⟩
abbrev cJ2_checkIndex_2214a : ByteArray := prog_14_method_91_code
def yJ2_checkIndex_2214a : MethodName := ⟨RJ2, "checkIndex", "(I[B)V"⟩
def RJ10 : String := "java/lang/System"
def TJ10 : u_T := fun k => match k with
  | _ => ("", "", "", false)
def tyJ10 : Nat → FieldType := fun k => match k with
  | _ => .int
abbrev wsJ100 : List Cond := u_ws RJ10 TJ10 0
theorem nmJ10 : ∀ a, a < 0 → ∀ b, b < 0 → a ≠ b → (TJ10 a).2.1 ≠ (TJ10 b).2.1 := by decide +kernel
theorem tyJ10_ok : ∀ k, k < 0 → parseFieldDescriptor (TJ10 k).2.2.1 = some (tyJ10 k) := by decide +kernel
def RJ3 : String := "jdk/internal/util/Preconditions"
def TJ3 : u_T := fun k => match k with
  | _ => ("", "", "", false)
def tyJ3 : Nat → FieldType := fun k => match k with
  | _ => .int
abbrev wsJ30 : List Cond := u_ws RJ3 TJ3 0
theorem nmJ3 : ∀ a, a < 0 → ∀ b, b < 0 → a ≠ b → (TJ3 a).2.1 ≠ (TJ3 b).2.1 := by decide +kernel
theorem tyJ3_ok : ∀ k, k < 0 → parseFieldDescriptor (TJ3 k).2.2.1 = some (tyJ3 k) := by decide +kernel
abbrev cJ3_checkIndex_8e157 : ByteArray := prog_16_method_11_code
def yJ3_checkIndex_8e157 : MethodName := ⟨RJ3, "checkIndex", "(IILjava/util/function/BiFunction;)I"⟩
def RL : String := "StreetTillTenLaw"
abbrev cL_law : ByteArray := code
def yL_law : MethodName := ⟨RL, "law", "([I)Z"⟩
def wsL_law_r1 : List Cond := [Cond.classLink RL 7 RX6, Cond.instantiable RX6 10, Cond.initialized RX6, Cond.classLink RL 10 RX7, Cond.instantiable RX7 47, Cond.initialized RX7, Cond.methodLink RL 9 yX6_init, Cond.instanceMethod yX6_init, Cond.code yX6_init cX6_init 2 none, Cond.methodLink RX6 1 objectInit, Cond.instanceMethod objectInit, Cond.code objectInit ⟨#[0xb1]⟩ 1 none, Cond.classLink RX6 7 RX4, Cond.instantiable RX4 6, Cond.initialized RX4, Cond.fieldLink RX6 10 "StreetTillTen" "tape" "LStreetTillTen$Tape;", Cond.classLink RX6 16 RX5, Cond.fieldLink RX6 18 "StreetTillTen" "texts" "[LStreetTillTen$Text;", Cond.classLink RX6 22 RX0, Cond.instantiable RX0 2, Cond.initialized RX0, Cond.fieldLink RX6 25 "StreetTillTen" "circle" "LStreetTillTen$Circle;", Cond.classLink RX6 29 RX2, Cond.fieldLink RX6 31 "StreetTillTen" "sheets" "[LStreetTillTen$Sheet;"]
def wsL_law_r2 : List Cond := [Cond.instantiable RX5 5, Cond.initialized RX5, Cond.instantiable RX2 3, Cond.initialized RX2, Cond.classLink RX6 55 RX1, Cond.instantiable RX1 5, Cond.initialized RX1, Cond.fieldLink RX6 60 "StreetTillTen" "reader" "LStreetTillTen$Reader;", Cond.fieldLink RX6 71 "StreetTillTen" "textCount" "I", Cond.classLink RX6 75 RX3, Cond.instantiable RX3 9, Cond.initialized RX3, Cond.fieldLink RX6 80 "StreetTillTen" "now" "LStreetTillTen$Street;", Cond.fieldLink RX6 84 "StreetTillTen" "thought" "LStreetTillTen$Street;", Cond.fieldLink RX6 87 "StreetTillTen" "kept" "LStreetTillTen$Street;", Cond.instanceMethod yX4_init, Cond.code yX4_init cX4_init 1 none, Cond.methodLink RX4 3 objectInit, Cond.arrayClass .int, Cond.fieldLink RX4 11 "StreetTillTen$Tape" "tokens" "[I", Cond.fieldLink RX4 15 "StreetTillTen$Tape" "starts" "[I", Cond.fieldLink RX4 18 "StreetTillTen$Tape" "steps" "[I", Cond.fieldLink RX4 21 "StreetTillTen$Tape" "letters" "[I", Cond.instanceMethod yX0_init]
def wsL_law_r3 : List Cond := [Cond.code yX0_init cX0_init 1 none, Cond.methodLink RX0 3 objectInit, Cond.fieldLink RX0 9 "StreetTillTen$Circle" "known" "[I", Cond.methodLink RX6 35 yX5_init, Cond.instanceMethod yX5_init, Cond.code yX5_init cX5_init 2 none, Cond.methodLink RX5 1 objectInit, Cond.fieldLink RX5 9 "StreetTillTen$Text" "steps" "[I", Cond.fieldLink RX5 15 "StreetTillTen$Text" "ends" "[I", Cond.fieldLink RX5 18 "StreetTillTen$Text" "pile" "[I", Cond.fieldLink RX5 21 "StreetTillTen$Text" "place" "I", Cond.instanceMethod yX2_init, Cond.code yX2_init cX2_init 1 none, Cond.methodLink RX2 3 objectInit, Cond.fieldLink RX2 9 "StreetTillTen$Sheet" "sort" "I", Cond.fieldLink RX2 15 "StreetTillTen$Sheet" "items" "[I", Cond.methodLink RX6 41 yJ0_length_8abf5, Cond.instanceMethod yJ0_length_8abf5, Cond.selects RJ0 yJ0_length_8abf5 yJ0_length_8abf5, Cond.initialized RJ0, Cond.code yJ0_length_8abf5 cJ0_length_8abf5 1 (some .int), Cond.fieldLink RJ0 9 "java/lang/String" "value" "[B", Cond.methodLink RJ0 335 yJ0_coder_7d493, Cond.instanceMethod yJ0_coder_7d493]
def wsL_law_r4 : List Cond := [Cond.selects RJ0 yJ0_coder_7d493 yJ0_coder_7d493, Cond.code yJ0_coder_7d493 cJ0_coder_7d493 1 (some .byte), Cond.fieldLink RJ0 38 "java/lang/String" "COMPACT_STRINGS" "Z", Cond.fieldLink RJ0 15 "java/lang/String" "coder" "B", Cond.methodLink RX6 47 yJ0_charAt_5068e, Cond.instanceMethod yJ0_charAt_5068e, Cond.selects RJ0 yJ0_charAt_5068e yJ0_charAt_5068e, Cond.code yJ0_charAt_5068e cJ0_charAt_5068e 2 (some .char), Cond.methodLink RJ0 492 yJ0_isLatin1_aae02, Cond.instanceMethod yJ0_isLatin1_aae02, Cond.selects RJ0 yJ0_isLatin1_aae02 yJ0_isLatin1_aae02, Cond.code yJ0_isLatin1_aae02 cJ0_isLatin1_aae02 1 (some .boolean), Cond.methodLink RJ0 495 yJ1_charAt_3b067, Cond.static yJ1_charAt_3b067, Cond.initialized RJ1, Cond.code yJ1_charAt_3b067 cJ1_charAt_3b067 2 (some .char), Cond.methodLink RJ1 9 yJ0_checkIndex_df160, Cond.static yJ0_checkIndex_df160, Cond.code yJ0_checkIndex_df160 cJ0_checkIndex_df160 2 none, Cond.fieldLink RJ0 1053 "jdk/internal/util/Preconditions" "SIOOBE_FORMATTER" "Ljava/util/function/BiFunction;", Cond.methodLink RJ0 1059 yJ3_checkIndex_8e157, Cond.static yJ3_checkIndex_8e157, Cond.initialized RJ3, Cond.code yJ3_checkIndex_8e157 cJ3_checkIndex_8e157 3 (some .int)]
def wsL_law_r5 : List Cond := [Cond.methodLink RJ0 498 yJ2_charAt_3b067, Cond.static yJ2_charAt_3b067, Cond.initialized RJ2, Cond.code yJ2_charAt_3b067 cJ2_charAt_3b067 2 (some .char), Cond.methodLink RJ2 67 yJ2_checkIndex_2214a, Cond.static yJ2_checkIndex_2214a, Cond.code yJ2_checkIndex_2214a cJ2_checkIndex_2214a 2 none, Cond.methodLink RJ2 48 yJ2_length_9d52b, Cond.static yJ2_length_9d52b, Cond.code yJ2_length_9d52b cJ2_length_9d52b 1 (some .int), Cond.methodLink RJ2 414 yJ0_checkIndex_df160, Cond.methodLink RJ2 71 yJ2_getChar_3b067, Cond.static yJ2_getChar_3b067, Cond.code yJ2_getChar_3b067 cJ2_getChar_3b067 2 (some .char), Cond.fieldLink RJ2 44 "java/lang/StringUTF16" "$assertionsDisabled" "Z", Cond.fieldLink RJ2 59 "java/lang/StringUTF16" "HI_BYTE_SHIFT" "I", Cond.fieldLink RJ2 63 "java/lang/StringUTF16" "LO_BYTE_SHIFT" "I", Cond.methodLink RX6 51 yX4_put, Cond.instanceMethod yX4_put, Cond.selects RX4 yX4_put yX4_put, Cond.code yX4_put cX4_put 2 (some .boolean), Cond.fieldLink RX4 24 "StreetTillTen$Tape" "size" "I", Cond.methodLink RX6 57 yX1_init, Cond.instanceMethod yX1_init]
def wsL_law_r6 : List Cond := [Cond.code yX1_init cX1_init 3 none, Cond.methodLink RX1 3 objectInit, Cond.fieldLink RX1 9 "StreetTillTen$Reader" "tape" "LStreetTillTen$Tape;", Cond.fieldLink RX1 15 "StreetTillTen$Reader" "text" "LStreetTillTen$Text;", Cond.methodLink RX6 64 yX1_readInto, Cond.instanceMethod yX1_readInto, Cond.selects RX1 yX1_readInto yX1_readInto, Cond.code yX1_readInto cX1_readInto 2 (some .int), Cond.fieldLink RX1 29 "StreetTillTen$Reader" "at" "I", Cond.fieldLink RX1 33 "StreetTillTen$Tape" "tokens" "[I", Cond.fieldLink RX1 37 "StreetTillTen$Reader" "token" "I", Cond.fieldLink RX1 40 "StreetTillTen$Reader" "fault" "I", Cond.methodLink RX1 19 yX5_clear, Cond.instanceMethod yX5_clear, Cond.selects RX5 yX5_clear yX5_clear, Cond.code yX5_clear cX5_clear 1 none, Cond.fieldLink RX5 25 "StreetTillTen$Text" "size" "I", Cond.methodLink RX1 24 yX4_cut, Cond.instanceMethod yX4_cut, Cond.selects RX4 yX4_cut yX4_cut, Cond.code yX4_cut cX4_cut 2 none, Cond.fieldLink RX4 28 "StreetTillTen$Tape" "at" "I", Cond.methodLink RX4 31 yX4_isBlank, Cond.static yX4_isBlank]
def wsL_law_r7 : List Cond := [Cond.code yX4_isBlank cX4_isBlank 1 (some .boolean), Cond.methodLink RX4 35 yX4_isDigit, Cond.static yX4_isDigit, Cond.code yX4_isDigit cX4_isDigit 1 (some .boolean), Cond.methodLink RX4 38 yX4_cutNumber, Cond.instanceMethod yX4_cutNumber, Cond.selects RX4 yX4_cutNumber yX4_cutNumber, Cond.code yX4_cutNumber cX4_cutNumber 3 none, Cond.methodLink RX4 42 yX4_isSmall, Cond.static yX4_isSmall, Cond.code yX4_isSmall cX4_isSmall 1 (some .boolean), Cond.methodLink RX4 45 yX4_cutWord, Cond.instanceMethod yX4_cutWord, Cond.selects RX4 yX4_cutWord yX4_cutWord, Cond.code yX4_cutWord cX4_cutWord 3 none, Cond.methodLink RX4 48 yX4_nameFrom, Cond.instanceMethod yX4_nameFrom, Cond.selects RX4 yX4_nameFrom yX4_nameFrom, Cond.code yX4_nameFrom cX4_nameFrom 2 (some .int), Cond.methodLink RX4 59 yX4_reads, Cond.instanceMethod yX4_reads, Cond.selects RX4 yX4_reads yX4_reads, Cond.code yX4_reads cX4_reads 4 (some .boolean), Cond.methodLink RX4 85 yJ0_length_8abf5]
def wsL_law_r8 : List Cond := [Cond.methodLink RX4 91 yJ0_charAt_5068e, Cond.methodLink RX4 52 yX4_keyFrom, Cond.instanceMethod yX4_keyFrom, Cond.selects RX4 yX4_keyFrom yX4_keyFrom, Cond.code yX4_keyFrom cX4_keyFrom 2 (some .int), Cond.methodLink RX1 43 yX1_readPart, Cond.instanceMethod yX1_readPart, Cond.selects RX1 yX1_readPart yX1_readPart, Cond.code yX1_readPart cX1_readPart 3 none, Cond.methodLink RX1 50 yX1_expect, Cond.instanceMethod yX1_expect, Cond.selects RX1 yX1_expect yX1_expect, Cond.code yX1_expect cX1_expect 2 none, Cond.methodLink RX1 77 yX1_next, Cond.instanceMethod yX1_next, Cond.selects RX1 yX1_next yX1_next, Cond.code yX1_next cX1_next 1 none, Cond.methodLink RX1 47 yX1_fail, Cond.instanceMethod yX1_fail, Cond.selects RX1 yX1_fail yX1_fail, Cond.code yX1_fail cX1_fail 1 none, Cond.fieldLink RX1 83 "StreetTillTen$Tape" "starts" "[I", Cond.methodLink RX1 54 yX1_read, Cond.instanceMethod yX1_read]
def wsL_law_r9 : List Cond := [Cond.selects RX1 yX1_read yX1_read, Cond.code yX1_read cX1_read 6 none, Cond.methodLink RX1 60 yX1_readOne, Cond.instanceMethod yX1_readOne, Cond.selects RX1 yX1_readOne yX1_readOne, Cond.methodLink RX1 63 yX1_opens, Cond.instanceMethod yX1_opens, Cond.selects RX1 yX1_opens yX1_opens, Cond.code yX1_opens cX1_opens 2 (some .boolean), Cond.methodLink RX1 67 yX5_write, Cond.instanceMethod yX5_write, Cond.selects RX5 yX5_write yX5_write, Cond.code yX5_write cX5_write 2 none, Cond.methodLink RX1 70 yX1_levelOf, Cond.static yX1_levelOf, Cond.code yX1_levelOf cX1_levelOf 1 (some .int), Cond.methodLink RX1 74 yX1_operationOf, Cond.static yX1_operationOf, Cond.code yX1_operationOf cX1_operationOf 1 (some .int), Cond.code yX1_readOne cX1_readOne 2 none, Cond.fieldLink RX1 80 "StreetTillTen$Tape" "steps" "[I", Cond.methodLink RX1 57 yX5_endPart, Cond.instanceMethod yX5_endPart, Cond.selects RX5 yX5_endPart yX5_endPart]
def wsL_law_r10 : List Cond := [Cond.code yX5_endPart cX5_endPart 2 none, Cond.methodLink RX6 68 yX4_empty, Cond.instanceMethod yX4_empty, Cond.selects RX4 yX4_empty yX4_empty, Cond.code yX4_empty cX4_empty 1 none, Cond.methodLink RX6 77 yX3_init, Cond.instanceMethod yX3_init, Cond.code yX3_init cX3_init 2 none, Cond.methodLink RX3 3 objectInit, Cond.fieldLink RX3 9 "StreetTillTen$Street" "limit" "I", Cond.fieldLink RX3 15 "StreetTillTen$Street" "kind" "[I", Cond.fieldLink RX3 19 "StreetTillTen$Street" "number" "[I", Cond.fieldLink RX3 22 "StreetTillTen$Street" "table" "[I", Cond.classLink RX3 25 "[[I", Cond.fieldLink RX3 27 "StreetTillTen$Street" "strength" "[[I", Cond.fieldLink RX3 32 "StreetTillTen$Street" "names" "[I", Cond.fieldLink RX3 35 "StreetTillTen$Street" "rule" "LStreetTillTen$Text;", Cond.methodLink RL 12 yX7_init, Cond.instanceMethod yX7_init, Cond.code yX7_init cX7_init 1 none, Cond.methodLink RX7 7 objectInit, Cond.fieldLink RX7 13 "StreetTillTenModel" "texts" "[I", Cond.fieldLink RX7 17 "StreetTillTenModel" "textSize" "[I", Cond.fieldLink RX7 20 "StreetTillTenModel" "tape" "[I"]
def wsL_law_r11 : List Cond := [Cond.fieldLink RX7 23 "StreetTillTenModel" "limit" "I", Cond.fieldLink RX7 26 "StreetTillTenModel" "kinds" "[I", Cond.fieldLink RX7 29 "StreetTillTenModel" "numbers" "[I", Cond.fieldLink RX7 32 "StreetTillTenModel" "tables" "[I", Cond.fieldLink RX7 35 "StreetTillTenModel" "strengths" "[I", Cond.fieldLink RX7 38 "StreetTillTenModel" "extraA" "I", Cond.fieldLink RX7 41 "StreetTillTenModel" "extraB" "I", Cond.fieldLink RX7 44 "StreetTillTenModel" "gone" "I", Cond.fieldLink RX7 47 "StreetTillTenModel" "ways" "[I", Cond.fieldLink RX7 50 "StreetTillTenModel" "strengthsWas" "[I", Cond.fieldLink RX7 53 "StreetTillTenModel" "tablesWas" "[I", Cond.fieldLink RX7 56 "StreetTillTenModel" "numbersKept" "[I", Cond.fieldLink RX7 59 "StreetTillTenModel" "tablesKept" "[I", Cond.fieldLink RX7 62 "StreetTillTenModel" "strengthsKept" "[I", Cond.fieldLink RX7 65 "StreetTillTenModel" "manyKept" "I", Cond.arrayClass .boolean, Cond.fieldLink RX7 68 "StreetTillTenModel" "isThere" "[Z", Cond.fieldLink RX7 72 "StreetTillTenModel" "sorts" "[I", Cond.fieldLink RX7 75 "StreetTillTenModel" "sheetSize" "[I", Cond.fieldLink RX7 78 "StreetTillTenModel" "items" "[I", Cond.fieldLink RX7 85 "StreetTillTenModel" "textCount" "I", Cond.methodLink RX7 81 yX7_spell, Cond.instanceMethod yX7_spell, Cond.selects RX7 yX7_spell yX7_spell]
def wsL_law_r12 : List Cond := [Cond.code yX7_spell cX7_spell 10 none, Cond.methodLink RL 13 yX6_set, Cond.instanceMethod yX6_set, Cond.selects RX6 yX6_set yX6_set, Cond.code yX6_set cX6_set 5 (some .int), Cond.fieldLink RX6 93 "StreetTillTen" "LEAST_SETTING" "[I", Cond.fieldLink RX6 97 "StreetTillTen" "MOST_SETTING" "[I", Cond.fieldLink RX6 104 "StreetTillTen$Street" "year" "I", Cond.fieldLink RX6 107 "StreetTillTen$Street" "limit" "I", Cond.fieldLink RX6 110 "StreetTillTen$Street" "number" "[I", Cond.fieldLink RX6 113 "StreetTillTen$Street" "table" "[I", Cond.methodLink RX6 90 yX6_isHouse, Cond.instanceMethod yX6_isHouse, Cond.selects RX6 yX6_isHouse yX6_isHouse, Cond.code yX6_isHouse cX6_isHouse 2 (some .boolean), Cond.fieldLink RX6 195 "StreetTillTen$Street" "count" "I", Cond.methodLink RX6 100 yX6_setting, Cond.instanceMethod yX6_setting, Cond.selects RX6 yX6_setting yX6_setting, Cond.code yX6_setting cX6_setting 3 (some .int), Cond.methodLink RL 17 yX7_set, Cond.instanceMethod yX7_set, Cond.selects RX7 yX7_set yX7_set, Cond.code yX7_set cX7_set 5 (some .int)]
def wsL_law_r13 : List Cond := [Cond.constantLong RX7 97 (3), Cond.methodLink RX7 91 yX7_in, Cond.static yX7_in, Cond.code yX7_in cX7_in 6 (some .boolean), Cond.methodLink RX7 105 yX7_isHouse, Cond.instanceMethod yX7_isHouse, Cond.selects RX7 yX7_isHouse yX7_isHouse, Cond.code yX7_isHouse cX7_isHouse 2 (some .boolean), Cond.fieldLink RX7 88 "StreetTillTenModel" "many" "I", Cond.methodLink RX7 109 yX7_isValue, Cond.static yX7_isValue, Cond.code yX7_isValue cX7_isValue 2 (some .boolean), Cond.constantLong RX7 95 (-1), Cond.constantLong RX7 99 (999), Cond.constantLong RX7 101 (99), Cond.constantLong RX7 103 (9), Cond.methodLink RX7 113 yX7_told, Cond.instanceMethod yX7_told, Cond.selects RX7 yX7_told yX7_told, Cond.code yX7_told cX7_told 6 (some .int), Cond.constantLong RX7 142 (10), Cond.constantLong RX7 144 (17), Cond.constantLong RX7 146 (7), Cond.fieldLink RX7 121 "StreetTillTenModel" "yearNow" "I"]
def wsL_law_r14 : List Cond := [Cond.methodLink RX7 139 yX7_strengthOf, Cond.instanceMethod yX7_strengthOf, Cond.selects RX7 yX7_strengthOf yX7_strengthOf, Cond.code yX7_strengthOf cX7_strengthOf 3 (some .int), Cond.methodLink RX7 148 yX7_seatsOf, Cond.instanceMethod yX7_seatsOf, Cond.selects RX7 yX7_seatsOf yX7_seatsOf, Cond.code yX7_seatsOf cX7_seatsOf 4 (some .int), Cond.methodLink RX7 152 yX7_soundsOf, Cond.instanceMethod yX7_soundsOf, Cond.selects RX7 yX7_soundsOf yX7_soundsOf, Cond.code yX7_soundsOf cX7_soundsOf 4 (some .int), Cond.methodLink RX7 367 yX7_says, Cond.instanceMethod yX7_says, Cond.selects RX7 yX7_says yX7_says, Cond.code yX7_says cX7_says 4 (some .int), Cond.fieldLink RX7 216 "StreetTillTenModel" "ofStrength" "I", Cond.fieldLink RX7 219 "StreetTillTenModel" "ofNumber" "I", Cond.fieldLink RX7 222 "StreetTillTenModel" "ofOther" "I", Cond.fieldLink RX7 225 "StreetTillTenModel" "ofSeats" "I", Cond.fieldLink RX7 228 "StreetTillTenModel" "ofYear" "I", Cond.fieldLink RX7 231 "StreetTillTenModel" "ofApart" "I", Cond.fieldLink RX7 124 "StreetTillTenModel" "rule" "I", Cond.methodLink RX7 364 yX7_apart]
def wsL_law_r15 : List Cond := [Cond.static yX7_apart, Cond.code yX7_apart cX7_apart 2 (some .int), Cond.methodLink RX7 361 yX7_read, Cond.instanceMethod yX7_read, Cond.selects RX7 yX7_read yX7_read, Cond.code yX7_read cX7_read 6 (some .int), Cond.fieldLink RX7 166 "StreetTillTenModel" "from" "I", Cond.fieldLink RX7 163 "StreetTillTenModel" "size" "I", Cond.fieldLink RX7 169 "StreetTillTenModel" "here" "I", Cond.fieldLink RX7 203 "StreetTillTenModel" "open" "I", Cond.fieldLink RX7 193 "StreetTillTenModel" "bad" "Z", Cond.fieldLink RX7 178 "StreetTillTenModel" "token" "I", Cond.methodLink RX7 209 yX7_next, Cond.instanceMethod yX7_next, Cond.selects RX7 yX7_next yX7_next, Cond.code yX7_next cX7_next 3 none, Cond.fieldLink RX7 175 "StreetTillTenModel" "tokenAt" "I", Cond.constantLong RX7 181 (97), Cond.constantLong RX7 183 (122), Cond.constantLong RX7 185 (48), Cond.constantLong RX7 187 (57), Cond.fieldLink RX7 189 "StreetTillTenModel" "tokenWorth" "J", Cond.methodLink RX7 172 yX7_byteAt, Cond.instanceMethod yX7_byteAt]
def wsL_law_r16 : List Cond := [Cond.selects RX7 yX7_byteAt yX7_byteAt, Cond.code yX7_byteAt cX7_byteAt 2 (some .int), Cond.methodLink RX7 212 yX7_isWord, Cond.instanceMethod yX7_isWord, Cond.selects RX7 yX7_isWord yX7_isWord, Cond.code yX7_isWord cX7_isWord 9 (some .boolean), Cond.methodLink RX7 200 yX7_isLetter, Cond.instanceMethod yX7_isLetter, Cond.selects RX7 yX7_isLetter yX7_isLetter, Cond.code yX7_isLetter cX7_isLetter 3 (some .boolean), Cond.methodLink RX7 357 yX7_part, Cond.instanceMethod yX7_part, Cond.selects RX7 yX7_part yX7_part, Cond.code yX7_part cX7_part 3 (some .int), Cond.methodLink RX7 206 yX7_fail, Cond.instanceMethod yX7_fail, Cond.selects RX7 yX7_fail yX7_fail, Cond.code yX7_fail cX7_fail 1 none, Cond.fieldLink RX7 197 "StreetTillTenModel" "fault" "I", Cond.methodLink RX7 354 yX7_either0, Cond.instanceMethod yX7_either0, Cond.selects RX7 yX7_either0 yX7_either0, Cond.code yX7_either0 cX7_either0 3 (some .int), Cond.methodLink RX7 351 yX7_both0]
def wsL_law_r17 : List Cond := [Cond.instanceMethod yX7_both0, Cond.selects RX7 yX7_both0 yX7_both0, Cond.code yX7_both0 cX7_both0 3 (some .int), Cond.methodLink RX7 348 yX7_not0, Cond.instanceMethod yX7_not0, Cond.selects RX7 yX7_not0 yX7_not0, Cond.code yX7_not0 cX7_not0 4 (some .int), Cond.constantLong RX7 256 (60), Cond.methodLink RX7 237 yX7_opens, Cond.instanceMethod yX7_opens, Cond.selects RX7 yX7_opens yX7_opens, Cond.code yX7_opens cX7_opens 1 (some .boolean), Cond.methodLink RX7 330 yX7_not1, Cond.instanceMethod yX7_not1, Cond.selects RX7 yX7_not1 yX7_not1, Cond.code yX7_not1 cX7_not1 4 (some .int), Cond.methodLink RX7 312 yX7_not2, Cond.instanceMethod yX7_not2, Cond.selects RX7 yX7_not2 yX7_not2, Cond.code yX7_not2 cX7_not2 4 (some .int), Cond.methodLink RX7 294 yX7_not3, Cond.instanceMethod yX7_not3, Cond.selects RX7 yX7_not3 yX7_not3, Cond.code yX7_not3 cX7_not3 4 (some .int)]
def wsL_law_r18 : List Cond := [Cond.methodLink RX7 276 yX7_not4, Cond.instanceMethod yX7_not4, Cond.selects RX7 yX7_not4 yX7_not4, Cond.code yX7_not4 cX7_not4 4 (some .int), Cond.methodLink RX7 258 yX7_not5, Cond.instanceMethod yX7_not5, Cond.selects RX7 yX7_not5 yX7_not5, Cond.code yX7_not5 cX7_not5 4 (some .int), Cond.methodLink RX7 253 yX7_added5, Cond.instanceMethod yX7_added5, Cond.selects RX7 yX7_added5 yX7_added5, Cond.code yX7_added5 cX7_added5 4 (some .int), Cond.constantLong RX7 251 (43), Cond.methodLink RX7 248 yX7_term5, Cond.instanceMethod yX7_term5, Cond.selects RX7 yX7_term5 yX7_term5, Cond.code yX7_term5 cX7_term5 2 (some .int), Cond.methodLink RX7 245 yX7_atom5, Cond.instanceMethod yX7_atom5, Cond.selects RX7 yX7_atom5 yX7_atom5, Cond.code yX7_atom5 cX7_atom5 2 (some .int), Cond.methodLink RX7 234 yX7_isSign, Cond.instanceMethod yX7_isSign, Cond.selects RX7 yX7_isSign yX7_isSign]
def wsL_law_r19 : List Cond := [Cond.code yX7_isSign cX7_isSign 2 (some .boolean), Cond.methodLink RX7 241 yX7_name, Cond.instanceMethod yX7_name, Cond.selects RX7 yX7_name yX7_name, Cond.code yX7_name cX7_name 1 (some .int), Cond.methodLink RX7 273 yX7_added4, Cond.instanceMethod yX7_added4, Cond.selects RX7 yX7_added4 yX7_added4, Cond.code yX7_added4 cX7_added4 4 (some .int), Cond.methodLink RX7 270 yX7_term4, Cond.instanceMethod yX7_term4, Cond.selects RX7 yX7_term4 yX7_term4, Cond.code yX7_term4 cX7_term4 2 (some .int), Cond.methodLink RX7 267 yX7_atom4, Cond.instanceMethod yX7_atom4, Cond.selects RX7 yX7_atom4 yX7_atom4, Cond.code yX7_atom4 cX7_atom4 2 (some .int), Cond.methodLink RX7 264 yX7_either5, Cond.instanceMethod yX7_either5, Cond.selects RX7 yX7_either5 yX7_either5, Cond.code yX7_either5 cX7_either5 3 (some .int), Cond.methodLink RX7 261 yX7_both5, Cond.instanceMethod yX7_both5, Cond.selects RX7 yX7_both5 yX7_both5]
def wsL_law_r20 : List Cond := [Cond.code yX7_both5 cX7_both5 3 (some .int), Cond.methodLink RX7 291 yX7_added3, Cond.instanceMethod yX7_added3, Cond.selects RX7 yX7_added3 yX7_added3, Cond.code yX7_added3 cX7_added3 4 (some .int), Cond.methodLink RX7 288 yX7_term3, Cond.instanceMethod yX7_term3, Cond.selects RX7 yX7_term3 yX7_term3, Cond.code yX7_term3 cX7_term3 2 (some .int), Cond.methodLink RX7 285 yX7_atom3, Cond.instanceMethod yX7_atom3, Cond.selects RX7 yX7_atom3 yX7_atom3, Cond.code yX7_atom3 cX7_atom3 2 (some .int), Cond.methodLink RX7 282 yX7_either4, Cond.instanceMethod yX7_either4, Cond.selects RX7 yX7_either4 yX7_either4, Cond.code yX7_either4 cX7_either4 3 (some .int), Cond.methodLink RX7 279 yX7_both4, Cond.instanceMethod yX7_both4, Cond.selects RX7 yX7_both4 yX7_both4, Cond.code yX7_both4 cX7_both4 3 (some .int), Cond.methodLink RX7 309 yX7_added2, Cond.instanceMethod yX7_added2, Cond.selects RX7 yX7_added2 yX7_added2]
def wsL_law_r21 : List Cond := [Cond.code yX7_added2 cX7_added2 4 (some .int), Cond.methodLink RX7 306 yX7_term2, Cond.instanceMethod yX7_term2, Cond.selects RX7 yX7_term2 yX7_term2, Cond.code yX7_term2 cX7_term2 2 (some .int), Cond.methodLink RX7 303 yX7_atom2, Cond.instanceMethod yX7_atom2, Cond.selects RX7 yX7_atom2 yX7_atom2, Cond.code yX7_atom2 cX7_atom2 2 (some .int), Cond.methodLink RX7 300 yX7_either3, Cond.instanceMethod yX7_either3, Cond.selects RX7 yX7_either3 yX7_either3, Cond.code yX7_either3 cX7_either3 3 (some .int), Cond.methodLink RX7 297 yX7_both3, Cond.instanceMethod yX7_both3, Cond.selects RX7 yX7_both3 yX7_both3, Cond.code yX7_both3 cX7_both3 3 (some .int), Cond.methodLink RX7 327 yX7_added1, Cond.instanceMethod yX7_added1, Cond.selects RX7 yX7_added1 yX7_added1, Cond.code yX7_added1 cX7_added1 4 (some .int), Cond.methodLink RX7 324 yX7_term1, Cond.instanceMethod yX7_term1, Cond.selects RX7 yX7_term1 yX7_term1]
def wsL_law_r22 : List Cond := [Cond.code yX7_term1 cX7_term1 2 (some .int), Cond.methodLink RX7 321 yX7_atom1, Cond.instanceMethod yX7_atom1, Cond.selects RX7 yX7_atom1 yX7_atom1, Cond.code yX7_atom1 cX7_atom1 2 (some .int), Cond.methodLink RX7 318 yX7_either2, Cond.instanceMethod yX7_either2, Cond.selects RX7 yX7_either2 yX7_either2, Cond.code yX7_either2 cX7_either2 3 (some .int), Cond.methodLink RX7 315 yX7_both2, Cond.instanceMethod yX7_both2, Cond.selects RX7 yX7_both2 yX7_both2, Cond.code yX7_both2 cX7_both2 3 (some .int), Cond.methodLink RX7 345 yX7_added0, Cond.instanceMethod yX7_added0, Cond.selects RX7 yX7_added0 yX7_added0, Cond.code yX7_added0 cX7_added0 4 (some .int), Cond.methodLink RX7 342 yX7_term0, Cond.instanceMethod yX7_term0, Cond.selects RX7 yX7_term0 yX7_term0, Cond.code yX7_term0 cX7_term0 2 (some .int), Cond.methodLink RX7 339 yX7_atom0, Cond.instanceMethod yX7_atom0, Cond.selects RX7 yX7_atom0 yX7_atom0]
def wsL_law_r23 : List Cond := [Cond.code yX7_atom0 cX7_atom0 2 (some .int), Cond.methodLink RX7 336 yX7_either1, Cond.instanceMethod yX7_either1, Cond.selects RX7 yX7_either1 yX7_either1, Cond.code yX7_either1 cX7_either1 3 (some .int), Cond.methodLink RX7 333 yX7_both1, Cond.instanceMethod yX7_both1, Cond.selects RX7 yX7_both1 yX7_both1, Cond.code yX7_both1 cX7_both1 3 (some .int), Cond.methodLink RX7 127 yX7_within, Cond.static yX7_within, Cond.code yX7_within cX7_within 3 (some .int), Cond.methodLink RX7 155 yX7_knows, Cond.instanceMethod yX7_knows, Cond.selects RX7 yX7_knows yX7_knows, Cond.code yX7_knows cX7_knows 3 (some .boolean), Cond.methodLink RX7 117 yX7_lays, Cond.instanceMethod yX7_lays, Cond.selects RX7 yX7_lays yX7_lays, Cond.code yX7_lays cX7_lays 4 none, Cond.methodLink RL 18 yX6_house, Cond.instanceMethod yX6_house, Cond.selects RX6 yX6_house yX6_house, Cond.code yX6_house cX6_house 3 (some .int)]
def wsL_law_r24 : List Cond := [Cond.methodLink RX6 116 yX6_settle, Cond.instanceMethod yX6_settle, Cond.selects RX6 yX6_settle yX6_settle, Cond.code yX6_settle cX6_settle 3 (some .int), Cond.methodLink RX6 283 yX3_add, Cond.instanceMethod yX3_add, Cond.selects RX3 yX3_add yX3_add, Cond.code yX3_add cX3_add 3 none, Cond.fieldLink RX3 42 "StreetTillTen$Street" "count" "I", Cond.methodLink RL 22 yX7_house, Cond.instanceMethod yX7_house, Cond.selects RX7 yX7_house yX7_house, Cond.code yX7_house cX7_house 4 (some .int), Cond.constantLong RX7 131 (5), Cond.methodLink RX7 133 yX7_binds, Cond.instanceMethod yX7_binds, Cond.selects RX7 yX7_binds yX7_binds, Cond.code yX7_binds cX7_binds 5 none, Cond.methodLink RL 23 yX6_bind, Cond.instanceMethod yX6_bind, Cond.selects RX6 yX6_bind yX6_bind, Cond.code yX6_bind cX6_bind 5 (some .int), Cond.fieldLink RX6 123 "StreetTillTen$Street" "strength" "[[I", Cond.methodLink RX6 119 yX6_isTwo]
def wsL_law_r25 : List Cond := [Cond.instanceMethod yX6_isTwo, Cond.selects RX6 yX6_isTwo yX6_isTwo, Cond.code yX6_isTwo cX6_isTwo 3 (some .boolean), Cond.methodLink RX6 127 yX3_tie, Cond.instanceMethod yX3_tie, Cond.selects RX3 yX3_tie yX3_tie, Cond.code yX3_tie cX3_tie 4 none, Cond.methodLink RL 26 yX7_bind, Cond.instanceMethod yX7_bind, Cond.selects RX7 yX7_bind yX7_bind, Cond.code yX7_bind cX7_bind 5 (some .int), Cond.methodLink RX7 136 yX7_areTwo, Cond.instanceMethod yX7_areTwo, Cond.selects RX7 yX7_areTwo yX7_areTwo, Cond.code yX7_areTwo cX7_areTwo 3 (some .boolean), Cond.methodLink RL 27 yX6_told, Cond.instanceMethod yX6_told, Cond.selects RX6 yX6_told yX6_told, Cond.code yX6_told cX6_told 4 (some .int), Cond.fieldLink RX6 131 "StreetTillTen$Street" "kind" "[I", Cond.methodLink RX6 134 yX3_acquaintances, Cond.instanceMethod yX3_acquaintances, Cond.selects RX3 yX3_acquaintances yX3_acquaintances, Cond.code yX3_acquaintances cX3_acquaintances 4 (some .int)]
def wsL_law_r26 : List Cond := [Cond.methodLink RX3 51 yX3_knows, Cond.instanceMethod yX3_knows, Cond.selects RX3 yX3_knows yX3_knows, Cond.code yX3_knows cX3_knows 3 (some .boolean), Cond.methodLink RX6 138 yX3_seatsAt, Cond.instanceMethod yX3_seatsAt, Cond.selects RX3 yX3_seatsAt yX3_seatsAt, Cond.code yX3_seatsAt cX3_seatsAt 4 (some .int), Cond.methodLink RX6 141 yX3_sounds, Cond.instanceMethod yX3_sounds, Cond.selects RX3 yX3_sounds yX3_sounds, Cond.code yX3_sounds cX3_sounds 3 (some .int), Cond.methodLink RX3 59 yX3_look, Cond.instanceMethod yX3_look, Cond.selects RX3 yX3_look yX3_look, Cond.code yX3_look cX3_look 3 none, Cond.fieldLink RX3 39 "StreetTillTen$Street" "year" "I", Cond.methodLink RX3 67 Lib.Math.abs.name, Cond.static Lib.Math.abs.name, Cond.initialized "java/lang/Math", Cond.code Lib.Math.abs.name Lib.Math.abs.code 1 (some .int), Cond.methodLink RX3 55 yX3_seatsAt, Cond.methodLink RX3 63 yX5_value, Cond.instanceMethod yX5_value]
def wsL_law_r27 : List Cond := [Cond.selects RX5 yX5_value yX5_value, Cond.code yX5_value cX5_value 7 (some .int), Cond.methodLink RX5 36 Lib.Math.min.name, Cond.static Lib.Math.min.name, Cond.code Lib.Math.min.name Lib.Math.min.code 2 (some .int), Cond.methodLink RX5 41 Lib.Math.max.name, Cond.static Lib.Math.max.name, Cond.code Lib.Math.max.name Lib.Math.max.code 2 (some .int), Cond.methodLink RX5 28 yX5_turned, Cond.static yX5_turned, Cond.code yX5_turned cX5_turned 2 (some .int), Cond.methodLink RX5 32 yX5_joined, Cond.static yX5_joined, Cond.code yX5_joined cX5_joined 3 (some .int), Cond.methodLink RL 30 yX7_told, Cond.methodLink RL 31 yX6_feed, Cond.instanceMethod yX6_feed, Cond.selects RX6 yX6_feed yX6_feed, Cond.code yX6_feed cX6_feed 2 (some .int), Cond.fieldLink RX6 144 "StreetTillTen$Tape" "size" "I", Cond.methodLink RL 35 yX7_feed, Cond.instanceMethod yX7_feed, Cond.selects RX7 yX7_feed yX7_feed, Cond.code yX7_feed cX7_feed 2 (some .int)]
def wsL_law_r28 : List Cond := [Cond.constantLong RX7 158 (255), Cond.fieldLink RX7 160 "StreetTillTenModel" "taped" "I", Cond.methodLink RL 36 yX6_text, Cond.instanceMethod yX6_text, Cond.selects RX6 yX6_text yX6_text, Cond.code yX6_text cX6_text 2 (some .int), Cond.methodLink RL 40 yX7_text, Cond.instanceMethod yX7_text, Cond.selects RX7 yX7_text yX7_text, Cond.code yX7_text cX7_text 2 (some .int), Cond.methodLink RL 41 yX6_force, Cond.instanceMethod yX6_force, Cond.selects RX6 yX6_force yX6_force, Cond.code yX6_force cX6_force 3 (some .int), Cond.fieldLink RX6 147 "StreetTillTen$Street" "rule" "LStreetTillTen$Text;", Cond.fieldLink RX6 151 "StreetTillTen$Text" "place" "I", Cond.methodLink RL 44 yX7_force, Cond.instanceMethod yX7_force, Cond.selects RX7 yX7_force yX7_force, Cond.code yX7_force cX7_force 3 (some .int), Cond.methodLink RL 45 yX6_asks, Cond.instanceMethod yX6_asks, Cond.selects RX6 yX6_asks yX6_asks, Cond.code yX6_asks cX6_asks 4 (some .int)]
def wsL_law_r29 : List Cond := [Cond.methodLink RX6 154 yX6_isEither, Cond.static yX6_isEither, Cond.code yX6_isEither cX6_isEither 1 (some .boolean), Cond.methodLink RX6 157 yX3_meets, Cond.instanceMethod yX3_meets, Cond.selects RX3 yX3_meets yX3_meets, Cond.code yX3_meets cX3_meets 4 (some .int), Cond.methodLink RX6 160 yX3_forgets, Cond.instanceMethod yX3_forgets, Cond.selects RX3 yX3_forgets yX3_forgets, Cond.code yX3_forgets cX3_forgets 4 (some .int), Cond.methodLink RL 48 yX7_asks, Cond.instanceMethod yX7_asks, Cond.selects RX7 yX7_asks yX7_asks, Cond.code yX7_asks cX7_asks 4 (some .int), Cond.methodLink RX7 370 yX7_meetsOf, Cond.instanceMethod yX7_meetsOf, Cond.selects RX7 yX7_meetsOf yX7_meetsOf, Cond.code yX7_meetsOf cX7_meetsOf 5 (some .int), Cond.methodLink RX7 373 yX7_fadesOf, Cond.instanceMethod yX7_fadesOf, Cond.selects RX7 yX7_fadesOf yX7_fadesOf, Cond.code yX7_fadesOf cX7_fadesOf 5 (some .int), Cond.methodLink RL 49 yX6_feast]
def wsL_law_r30 : List Cond := [Cond.instanceMethod yX6_feast, Cond.selects RX6 yX6_feast yX6_feast, Cond.code yX6_feast cX6_feast 1 (some .int), Cond.methodLink RX6 163 yX3_holdFeast, Cond.instanceMethod yX3_holdFeast, Cond.selects RX3 yX3_holdFeast yX3_holdFeast, Cond.code yX3_holdFeast cX3_holdFeast 4 none, Cond.methodLink RX3 76 Lib.Math.min.name, Cond.methodLink RX3 72 yX3_meets, Cond.methodLink RX3 79 yX3_tie, Cond.methodLink RX6 166 yX3_friends, Cond.instanceMethod yX3_friends, Cond.selects RX3 yX3_friends yX3_friends, Cond.code yX3_friends cX3_friends 4 (some .int), Cond.methodLink RL 52 yX7_feast, Cond.instanceMethod yX7_feast, Cond.selects RX7 yX7_feast yX7_feast, Cond.code yX7_feast cX7_feast 1 (some .int), Cond.methodLink RX7 376 yX7_feasts, Cond.instanceMethod yX7_feasts, Cond.selects RX7 yX7_feasts yX7_feasts, Cond.code yX7_feasts cX7_feasts 4 none, Cond.methodLink RX7 379 yX7_friends, Cond.instanceMethod yX7_friends]
def wsL_law_r31 : List Cond := [Cond.selects RX7 yX7_friends yX7_friends, Cond.code yX7_friends cX7_friends 4 (some .int), Cond.methodLink RL 53 yX6_year, Cond.instanceMethod yX6_year, Cond.selects RX6 yX6_year yX6_year, Cond.code yX6_year cX6_year 1 (some .int), Cond.methodLink RX6 169 yX3_endYear, Cond.instanceMethod yX3_endYear, Cond.selects RX3 yX3_endYear yX3_endYear, Cond.code yX3_endYear cX3_endYear 4 none, Cond.methodLink RX3 86 Lib.Math.max.name, Cond.methodLink RX3 83 yX3_forgets, Cond.methodLink RL 56 yX7_year, Cond.instanceMethod yX7_year, Cond.selects RX7 yX7_year yX7_year, Cond.code yX7_year cX7_year 1 (some .int), Cond.methodLink RX7 382 yX7_fades, Cond.instanceMethod yX7_fades, Cond.selects RX7 yX7_fades yX7_fades, Cond.code yX7_fades cX7_fades 4 none, Cond.methodLink RL 57 yX6_street, Cond.instanceMethod yX6_street, Cond.selects RX6 yX6_street yX6_street, Cond.code yX6_street cX6_street 2 (some .int)]
def wsL_law_r32 : List Cond := [Cond.methodLink RX6 172 yX6_figure, Cond.instanceMethod yX6_figure, Cond.selects RX6 yX6_figure yX6_figure, Cond.code yX6_figure cX6_figure 3 (some .int), Cond.methodLink RX6 176 yX0_see, Cond.instanceMethod yX0_see, Cond.selects RX0 yX0_see yX0_see, Cond.code yX0_see cX0_see 4 none, Cond.fieldLink RX0 15 "StreetTillTen$Street" "count" "I", Cond.fieldLink RX0 21 "StreetTillTen$Circle" "count" "I", Cond.methodLink RX0 22 yX3_knows, Cond.methodLink RX6 201 yX0_everyone, Cond.instanceMethod yX0_everyone, Cond.selects RX0 yX0_everyone yX0_everyone, Cond.code yX0_everyone cX0_everyone 1 (some .int), Cond.methodLink RX6 204 yX0_companies, Cond.instanceMethod yX0_companies, Cond.selects RX0 yX0_companies yX0_companies, Cond.code yX0_companies cX0_companies 5 (some .int), Cond.methodLink RX0 26 yX0_companyOf, Cond.instanceMethod yX0_companyOf, Cond.selects RX0 yX0_companyOf yX0_companyOf, Cond.code yX0_companyOf cX0_companyOf 5 (some .int), Cond.methodLink RX0 45 yX0_further]
def wsL_law_r33 : List Cond := [Cond.instanceMethod yX0_further, Cond.selects RX0 yX0_further yX0_further, Cond.code yX0_further cX0_further 4 (some .int), Cond.methodLink RX6 286 yX0_largestCompany, Cond.instanceMethod yX0_largestCompany, Cond.selects RX0 yX0_largestCompany yX0_largestCompany, Cond.code yX0_largestCompany cX0_largestCompany 3 (some .int), Cond.methodLink RX0 40 Lib.Math.max.name, Cond.methodLink RX0 30 yX0_everyone, Cond.methodLink RX0 34 yJ6_bitCount_0f7a4, Cond.static yJ6_bitCount_0f7a4, Cond.initialized RJ6, Cond.code yJ6_bitCount_0f7a4 cJ6_bitCount_0f7a4 1 (some .int), Cond.constant RJ6 265 (1431655765), Cond.constant RJ6 266 (858993459), Cond.constant RJ6 267 (252645135), Cond.methodLink RX6 289 yX3_allStrength, Cond.instanceMethod yX3_allStrength, Cond.selects RX3 yX3_allStrength yX3_allStrength, Cond.code yX3_allStrength cX3_allStrength 4 (some .int), Cond.methodLink RX6 207 yX0_longestWay, Cond.instanceMethod yX0_longestWay, Cond.selects RX0 yX0_longestWay yX0_longestWay, Cond.code yX0_longestWay cX0_longestWay 6 (some .int)]
def wsL_law_r34 : List Cond := [Cond.methodLink RX0 48 yX0_distance, Cond.instanceMethod yX0_distance, Cond.selects RX0 yX0_distance yX0_distance, Cond.code yX0_distance cX0_distance 5 (some .int), Cond.methodLink RX6 292 yX3_quietTable, Cond.instanceMethod yX3_quietTable, Cond.selects RX3 yX3_quietTable yX3_quietTable, Cond.code yX3_quietTable cX3_quietTable 5 (some .int), Cond.methodLink RX3 99 yX3_dinAt, Cond.instanceMethod yX3_dinAt, Cond.selects RX3 yX3_dinAt yX3_dinAt, Cond.code yX3_dinAt cX3_dinAt 4 (some .int), Cond.methodLink RX3 102 yX3_sounds, Cond.methodLink RL 60 yX7_street, Cond.instanceMethod yX7_street, Cond.selects RX7 yX7_street yX7_street, Cond.code yX7_street cX7_street 2 (some .int), Cond.methodLink RX7 400 yX7_quietest, Cond.instanceMethod yX7_quietest, Cond.selects RX7 yX7_quietest yX7_quietest, Cond.code yX7_quietest cX7_quietest 7 (some .int), Cond.methodLink RX7 403 yX7_tellsOf, Cond.instanceMethod yX7_tellsOf, Cond.selects RX7 yX7_tellsOf yX7_tellsOf]
def wsL_law_r35 : List Cond := [Cond.code yX7_tellsOf cX7_tellsOf 2 (some .int), Cond.methodLink RX7 385 yX7_waysAll, Cond.instanceMethod yX7_waysAll, Cond.selects RX7 yX7_waysAll yX7_waysAll, Cond.code yX7_waysAll cX7_waysAll 7 none, Cond.methodLink RX7 388 yX7_companies, Cond.instanceMethod yX7_companies, Cond.selects RX7 yX7_companies yX7_companies, Cond.code yX7_companies cX7_companies 5 (some .int), Cond.methodLink RX7 391 yX7_largest, Cond.instanceMethod yX7_largest, Cond.selects RX7 yX7_largest yX7_largest, Cond.code yX7_largest cX7_largest 5 (some .int), Cond.methodLink RX7 394 yX7_strengthAll, Cond.instanceMethod yX7_strengthAll, Cond.selects RX7 yX7_strengthAll yX7_strengthAll, Cond.code yX7_strengthAll cX7_strengthAll 4 (some .int), Cond.methodLink RX7 397 yX7_longest, Cond.instanceMethod yX7_longest, Cond.selects RX7 yX7_longest yX7_longest, Cond.code yX7_longest cX7_longest 6 (some .int), Cond.methodLink RL 61 yX6_way, Cond.instanceMethod yX6_way, Cond.selects RX6 yX6_way yX6_way]
def wsL_law_r36 : List Cond := [Cond.code yX6_way cX6_way 3 (some .int), Cond.methodLink RX6 180 yX0_distance, Cond.methodLink RL 64 yX7_way, Cond.instanceMethod yX7_way, Cond.selects RX7 yX7_way yX7_way, Cond.code yX7_way cX7_way 3 (some .int), Cond.methodLink RL 65 yX6_run, Cond.instanceMethod yX6_run, Cond.selects RX6 yX6_run yX6_run, Cond.code yX6_run cX6_run 3 (some .int), Cond.methodLink RX6 183 yX6_isYears, Cond.static yX6_isYears, Cond.code yX6_isYears cX6_isYears 1 (some .boolean), Cond.methodLink RX6 186 yX3_become, Cond.instanceMethod yX3_become, Cond.selects RX3 yX3_become yX3_become, Cond.code yX3_become cX3_become 3 none, Cond.methodLink RX3 45 arraycopyName, Cond.native arraycopyName, Cond.static arraycopyName, Cond.initialized "java/lang/System", Cond.methodLink RX6 189 yX3_pass, Cond.instanceMethod yX3_pass, Cond.selects RX3 yX3_pass yX3_pass]
def wsL_law_r37 : List Cond := [Cond.code yX3_pass cX3_pass 3 (some .int), Cond.methodLink RX3 89 yX3_holdFeast, Cond.methodLink RX3 92 yX3_endYear, Cond.methodLink RX3 95 yX3_friends, Cond.methodLink RL 68 yX7_run, Cond.instanceMethod yX7_run, Cond.selects RX7 yX7_run yX7_run, Cond.code yX7_run cX7_run 4 (some .int), Cond.constantLong RX7 409 (20), Cond.constantLong RX7 411 (4), Cond.methodLink RX7 413 yX7_laysAside, Cond.instanceMethod yX7_laysAside, Cond.selects RX7 yX7_laysAside yX7_laysAside, Cond.code yX7_laysAside cX7_laysAside 2 none, Cond.fieldLink RX7 406 "StreetTillTenModel" "yearWas" "I", Cond.methodLink RX7 416 yX7_lives, Cond.instanceMethod yX7_lives, Cond.selects RX7 yX7_lives yX7_lives, Cond.code yX7_lives cX7_lives 3 none, Cond.methodLink RX7 420 yX7_laysBack, Cond.instanceMethod yX7_laysBack, Cond.selects RX7 yX7_laysBack yX7_laysBack, Cond.code yX7_laysBack cX7_laysBack 2 none, Cond.methodLink RL 69 yX6_takes]
def wsL_law_r38 : List Cond := [Cond.instanceMethod yX6_takes, Cond.selects RX6 yX6_takes yX6_takes, Cond.code yX6_takes cX6_takes 4 (some .int), Cond.methodLink RX6 192 yX6_isFriends, Cond.static yX6_isFriends, Cond.code yX6_isFriends cX6_isFriends 1 (some .boolean), Cond.methodLink RL 72 yX7_takes, Cond.instanceMethod yX7_takes, Cond.selects RX7 yX7_takes yX7_takes, Cond.code yX7_takes cX7_takes 3 (some .int), Cond.constantLong RX7 423 (28), Cond.methodLink RL 73 yX6_best, Cond.instanceMethod yX6_best, Cond.selects RX6 yX6_best yX6_best, Cond.code yX6_best cX6_best 8 (some .int), Cond.methodLink RL 76 yX7_best, Cond.instanceMethod yX7_best, Cond.selects RX7 yX7_best yX7_best, Cond.code yX7_best cX7_best 9 (some .int), Cond.methodLink RX7 425 yX7_friendsBehind, Cond.instanceMethod yX7_friendsBehind, Cond.selects RX7 yX7_friendsBehind yX7_friendsBehind, Cond.code yX7_friendsBehind cX7_friendsBehind 3 (some .int), Cond.methodLink RL 77 yX6_change]
def wsL_law_r39 : List Cond := [Cond.instanceMethod yX6_change, Cond.selects RX6 yX6_change yX6_change, Cond.code yX6_change cX6_change 8 (some .int), Cond.methodLink RX6 198 yX6_canChange, Cond.instanceMethod yX6_canChange, Cond.selects RX6 yX6_canChange yX6_canChange, Cond.code yX6_canChange cX6_canChange 5 (some .boolean), Cond.methodLink RL 80 yX7_change, Cond.instanceMethod yX7_change, Cond.selects RX7 yX7_change yX7_change, Cond.code yX7_change cX7_change 10 (some .int), Cond.methodLink RL 81 yX6_split, Cond.instanceMethod yX6_split, Cond.selects RX6 yX6_split yX6_split, Cond.code yX6_split cX6_split 8 (some .int), Cond.methodLink RL 84 yX7_split, Cond.instanceMethod yX7_split, Cond.selects RX7 yX7_split yX7_split, Cond.code yX7_split cX7_split 7 (some .int), Cond.constantLong RX7 428 (2), Cond.methodLink RX7 430 yX7_clears, Cond.instanceMethod yX7_clears, Cond.selects RX7 yX7_clears yX7_clears, Cond.code yX7_clears cX7_clears 2 none]
def wsL_law_r40 : List Cond := [Cond.methodLink RX7 433 yX7_sitsAgain, Cond.instanceMethod yX7_sitsAgain, Cond.selects RX7 yX7_sitsAgain yX7_sitsAgain, Cond.code yX7_sitsAgain cX7_sitsAgain 2 none, Cond.methodLink RL 85 yX6_missed, Cond.instanceMethod yX6_missed, Cond.selects RX6 yX6_missed yX6_missed, Cond.code yX6_missed cX6_missed 6 (some .int), Cond.methodLink RL 88 yX7_missed, Cond.instanceMethod yX7_missed, Cond.selects RX7 yX7_missed yX7_missed, Cond.code yX7_missed cX7_missed 6 (some .int), Cond.methodLink RL 89 yX6_match, Cond.instanceMethod yX6_match, Cond.selects RX6 yX6_match yX6_match, Cond.code yX6_match cX6_match 7 (some .int), Cond.methodLink RX6 210 yX3_knows, Cond.methodLink RX6 213 yX0_turn, Cond.instanceMethod yX0_turn, Cond.selects RX0 yX0_turn yX0_turn, Cond.code yX0_turn cX0_turn 3 none, Cond.methodLink RL 92 yX7_match, Cond.instanceMethod yX7_match, Cond.selects RX7 yX7_match yX7_match]
def wsL_law_r41 : List Cond := [Cond.code yX7_match cX7_match 7 (some .int), Cond.methodLink RL 93 yX6_tells, Cond.instanceMethod yX6_tells, Cond.selects RX6 yX6_tells yX6_tells, Cond.code yX6_tells cX6_tells 5 (some .int), Cond.fieldLink RX6 224 "StreetTillTen$Sheet" "size" "I", Cond.methodLink RX6 217 yX6_isSheet, Cond.static yX6_isSheet, Cond.code yX6_isSheet cX6_isSheet 1 (some .boolean), Cond.methodLink RX6 220 yX2_isMissing, Cond.instanceMethod yX2_isMissing, Cond.selects RX2 yX2_isMissing yX2_isMissing, Cond.code yX2_isMissing cX2_isMissing 1 (some .boolean), Cond.methodLink RX6 225 yX6_otherwise, Cond.instanceMethod yX6_otherwise, Cond.selects RX6 yX6_otherwise yX6_otherwise, Cond.code yX6_otherwise cX6_otherwise 3 (some .int), Cond.methodLink RX6 301 yX2_unlikeItems, Cond.instanceMethod yX2_unlikeItems, Cond.selects RX2 yX2_unlikeItems yX2_unlikeItems, Cond.code yX2_unlikeItems cX2_unlikeItems 4 (some .int), Cond.fieldLink RX2 19 "StreetTillTen$Sheet" "size" "I", Cond.methodLink RX6 229 yX6_limits, Cond.instanceMethod yX6_limits]
def wsL_law_r42 : List Cond := [Cond.selects RX6 yX6_limits yX6_limits, Cond.code yX6_limits cX6_limits 5 (some .int), Cond.methodLink RX6 311 yX6_fits, Cond.instanceMethod yX6_fits, Cond.selects RX6 yX6_fits yX6_fits, Cond.code yX6_fits cX6_fits 6 (some .boolean), Cond.fieldLink RX6 268 "StreetTillTen$Sheet" "items" "[I", Cond.methodLink RX6 232 yX6_leastLimit, Cond.instanceMethod yX6_leastLimit, Cond.selects RX6 yX6_leastLimit yX6_leastLimit, Cond.code yX6_leastLimit cX6_leastLimit 4 (some .int), Cond.methodLink RX6 235 yX6_possible, Cond.instanceMethod yX6_possible, Cond.selects RX6 yX6_possible yX6_possible, Cond.code yX6_possible cX6_possible 7 (some .int), Cond.methodLink RX6 305 yX6_choices, Cond.instanceMethod yX6_choices, Cond.selects RX6 yX6_choices yX6_choices, Cond.code yX6_choices cX6_choices 2 (some .int), Cond.methodLink RX6 308 yX6_suppose, Cond.instanceMethod yX6_suppose, Cond.selects RX6 yX6_suppose yX6_suppose, Cond.code yX6_suppose cX6_suppose 4 none, Cond.methodLink RL 96 yX7_tells]
def wsL_law_r43 : List Cond := [Cond.instanceMethod yX7_tells, Cond.selects RX7 yX7_tells yX7_tells, Cond.code yX7_tells cX7_tells 9 (some .int), Cond.constantLong RX7 439 (6), Cond.methodLink RX7 436 yX7_isSheet, Cond.static yX7_isSheet, Cond.code yX7_isSheet cX7_isSheet 1 (some .boolean), Cond.methodLink RX7 441 yX7_unlike, Cond.instanceMethod yX7_unlike, Cond.selects RX7 yX7_unlike yX7_unlike, Cond.code yX7_unlike cX7_unlike 5 (some .int), Cond.methodLink RX7 444 yX7_limitsBy, Cond.instanceMethod yX7_limitsBy, Cond.selects RX7 yX7_limitsBy yX7_limitsBy, Cond.code yX7_limitsBy cX7_limitsBy 9 (some .int), Cond.methodLink RL 97 yX6_film, Cond.instanceMethod yX6_film, Cond.selects RX6 yX6_film yX6_film, Cond.code yX6_film cX6_film 5 (some .int), Cond.methodLink RX6 239 yX2_lay, Cond.instanceMethod yX2_lay, Cond.selects RX2 yX2_lay yX2_lay, Cond.code yX2_lay cX2_lay 4 none, Cond.methodLink RX6 242 yX2_put]
def wsL_law_r44 : List Cond := [Cond.instanceMethod yX2_put, Cond.selects RX2 yX2_put yX2_put, Cond.code yX2_put cX2_put 3 none, Cond.methodLink RL 100 yX7_film, Cond.instanceMethod yX7_film, Cond.selects RX7 yX7_film yX7_film, Cond.code yX7_film cX7_film 4 (some .int), Cond.methodLink RX7 448 yX7_sheet, Cond.instanceMethod yX7_sheet, Cond.selects RX7 yX7_sheet yX7_sheet, Cond.code yX7_sheet cX7_sheet 5 (some .int), Cond.methodLink RL 101 yX6_drawn, Cond.instanceMethod yX6_drawn, Cond.selects RX6 yX6_drawn yX6_drawn, Cond.code yX6_drawn cX6_drawn 3 (some .int), Cond.methodLink RX6 244 yX6_friendsDrawn, Cond.instanceMethod yX6_friendsDrawn, Cond.selects RX6 yX6_friendsDrawn yX6_friendsDrawn, Cond.code yX6_friendsDrawn cX6_friendsDrawn 5 (some .int), Cond.constant RX6 295 (1103515245), Cond.methodLink RL 104 yX7_drawn, Cond.instanceMethod yX7_drawn, Cond.selects RX7 yX7_drawn yX7_drawn, Cond.code yX7_drawn cX7_drawn 3 (some .int)]
def wsL_law_r45 : List Cond := [Cond.methodLink RX7 452 yX7_friendsBy, Cond.instanceMethod yX7_friendsBy, Cond.selects RX7 yX7_friendsBy yX7_friendsBy, Cond.code yX7_friendsBy cX7_friendsBy 5 (some .int), Cond.constant RX7 451 (1103515245), Cond.methodLink RL 105 yX6_chance, Cond.instanceMethod yX6_chance, Cond.selects RX6 yX6_chance yX6_chance, Cond.code yX6_chance cX6_chance 7 (some .long), Cond.constantLong RX6 247 (-4611686018427387904), Cond.methodLink RX6 249 yX6_commonDivisor, Cond.static yX6_commonDivisor, Cond.code yX6_commonDivisor cX6_commonDivisor 6 (some .int), Cond.methodLink RX6 296 Lib.Math.max.name, Cond.methodLink RL 109 yX7_chance, Cond.instanceMethod yX7_chance, Cond.selects RX7 yX7_chance yX7_chance, Cond.code yX7_chance cX7_chance 13 (some .long), Cond.constantLong RX7 455 (-4611686018427387904), Cond.methodLink RL 110 yX6_image, Cond.instanceMethod yX6_image, Cond.selects RX6 yX6_image yX6_image, Cond.code yX6_image cX6_image 1 (some .int), Cond.fieldLink RX6 252 "StreetTillTen" "hasImage" "Z"]
def wsL_law_r46 : List Cond := [Cond.methodLink RL 113 yX7_image, Cond.instanceMethod yX7_image, Cond.selects RX7 yX7_image yX7_image, Cond.code yX7_image cX7_image 2 (some .int), Cond.fieldLink RX7 457 "StreetTillTenModel" "yearKept" "I", Cond.fieldLink RX7 460 "StreetTillTenModel" "limitKept" "I", Cond.fieldLink RX7 463 "StreetTillTenModel" "ruleKept" "I", Cond.methodLink RL 114 yX6_back, Cond.instanceMethod yX6_back, Cond.selects RX6 yX6_back yX6_back, Cond.code yX6_back cX6_back 1 (some .int), Cond.methodLink RL 117 yX7_back, Cond.instanceMethod yX7_back, Cond.selects RX7 yX7_back yX7_back, Cond.code yX7_back cX7_back 2 (some .int), Cond.methodLink RL 118 yX6_count, Cond.instanceMethod yX6_count, Cond.selects RX6 yX6_count yX6_count, Cond.code yX6_count cX6_count 2 (some .int), Cond.methodLink RX6 256 yX3_seated, Cond.instanceMethod yX3_seated, Cond.selects RX3 yX3_seated yX3_seated, Cond.code yX3_seated cX3_seated 3 (some .int), Cond.methodLink RL 121 yX7_count]
def wsL_law_r47 : List Cond := [Cond.instanceMethod yX7_count, Cond.selects RX7 yX7_count yX7_count, Cond.code yX7_count cX7_count 4 (some .int), Cond.methodLink RL 122 yX6_sheet, Cond.instanceMethod yX6_sheet, Cond.selects RX6 yX6_sheet yX6_sheet, Cond.code yX6_sheet cX6_sheet 4 (some .int), Cond.methodLink RX6 259 yX6_isSort, Cond.static yX6_isSort, Cond.code yX6_isSort cX6_isSort 1 (some .boolean), Cond.methodLink RL 125 yX7_sheet, Cond.methodLink RL 126 yX6_cell, Cond.instanceMethod yX6_cell, Cond.selects RX6 yX6_cell yX6_cell, Cond.code yX6_cell cX6_cell 5 (some .int), Cond.methodLink RX6 262 yX2_holds, Cond.instanceMethod yX2_holds, Cond.selects RX2 yX2_holds yX2_holds, Cond.code yX2_holds cX2_holds 3 (some .boolean), Cond.methodLink RL 129 yX7_cell, Cond.instanceMethod yX7_cell, Cond.selects RX7 yX7_cell yX7_cell, Cond.code yX7_cell cX7_cell 4 (some .int), Cond.methodLink RL 130 yX6_copy]
def wsL_law_r48 : List Cond := [Cond.instanceMethod yX6_copy, Cond.selects RX6 yX6_copy yX6_copy, Cond.code yX6_copy cX6_copy 8 (some .int), Cond.fieldLink RX6 265 "StreetTillTen$Sheet" "sort" "I", Cond.methodLink RX6 271 arraycopyName, Cond.methodLink RL 134 yX7_copy, Cond.instanceMethod yX7_copy, Cond.selects RX7 yX7_copy yX7_copy, Cond.code yX7_copy cX7_copy 9 (some .int), Cond.methodLink RL 135 yX6_houses, Cond.instanceMethod yX6_houses, Cond.selects RX6 yX6_houses yX6_houses, Cond.code yX6_houses cX6_houses 9 (some .int), Cond.methodLink RL 139 yX7_houses, Cond.instanceMethod yX7_houses, Cond.selects RX7 yX7_houses yX7_houses, Cond.code yX7_houses cX7_houses 8 (some .int), Cond.constantLong RX7 466 (8), Cond.methodLink RX7 468 yX7_house, Cond.methodLink RL 140 yX6_taken, Cond.instanceMethod yX6_taken, Cond.selects RX6 yX6_taken yX6_taken, Cond.code yX6_taken cX6_taken 3 (some .int), Cond.methodLink RX6 277 yX6_isUnder]
def wsL_law_r49 : List Cond := [Cond.static yX6_isUnder, Cond.code yX6_isUnder cX6_isUnder 4 (some .boolean), Cond.fieldLink RX6 280 "StreetTillTen" "KIND_ABOVE" "[I", Cond.methodLink RL 143 yX7_taken, Cond.instanceMethod yX7_taken, Cond.selects RX7 yX7_taken yX7_taken, Cond.code yX7_taken cX7_taken 4 (some .int), Cond.methodLink RX7 471 yX7_over, Cond.static yX7_over, Cond.code yX7_over cX7_over 1 (some .int)]
def wsL_law : List Cond := (wsL_law_r1 ++ (wsL_law_r2 ++ (wsL_law_r3 ++ (wsL_law_r4 ++ (wsL_law_r5 ++ (wsL_law_r6 ++ (wsL_law_r7 ++ (wsL_law_r8 ++ (wsL_law_r9 ++ (wsL_law_r10 ++ (wsL_law_r11 ++ (wsL_law_r12 ++ (wsL_law_r13 ++ (wsL_law_r14 ++ (wsL_law_r15 ++ (wsL_law_r16 ++ (wsL_law_r17 ++ (wsL_law_r18 ++ (wsL_law_r19 ++ (wsL_law_r20 ++ (wsL_law_r21 ++ (wsL_law_r22 ++ (wsL_law_r23 ++ (wsL_law_r24 ++ (wsL_law_r25 ++ (wsL_law_r26 ++ (wsL_law_r27 ++ (wsL_law_r28 ++ (wsL_law_r29 ++ (wsL_law_r30 ++ (wsL_law_r31 ++ (wsL_law_r32 ++ (wsL_law_r33 ++ (wsL_law_r34 ++ (wsL_law_r35 ++ (wsL_law_r36 ++ (wsL_law_r37 ++ (wsL_law_r38 ++ (wsL_law_r39 ++ (wsL_law_r40 ++ (wsL_law_r41 ++ (wsL_law_r42 ++ (wsL_law_r43 ++ (wsL_law_r44 ++ (wsL_law_r45 ++ (wsL_law_r46 ++ (wsL_law_r47 ++ (wsL_law_r48 ++ wsL_law_r49)))))))))))))))))))))))))))))))))))))))))))))))) ++ wsX60 ++ wsX70 ++ wsX40 ++ wsX00 ++ wsX50 ++ wsX20 ++ wsX10 ++ wsX30 ++ ([] : List Cond)
theorem inlX0 : ∀ w ∈ wsX00, w ∈ wsL_law := fun _ h => List.mem_append_left _ (List.mem_append_left _ (List.mem_append_left _ (List.mem_append_left _ (List.mem_append_left _ (List.mem_append_right _ h)))))
theorem inlX1 : ∀ w ∈ wsX10, w ∈ wsL_law := fun _ h => List.mem_append_left _ (List.mem_append_left _ (List.mem_append_right _ h))
theorem inlX2 : ∀ w ∈ wsX20, w ∈ wsL_law := fun _ h => List.mem_append_left _ (List.mem_append_left _ (List.mem_append_left _ (List.mem_append_right _ h)))
theorem inlX3 : ∀ w ∈ wsX30, w ∈ wsL_law := fun _ h => List.mem_append_left _ (List.mem_append_right _ h)
theorem inlX4 : ∀ w ∈ wsX40, w ∈ wsL_law := fun _ h => List.mem_append_left _ (List.mem_append_left _ (List.mem_append_left _ (List.mem_append_left _ (List.mem_append_left _ (List.mem_append_left _ (List.mem_append_right _ h))))))
theorem inlX5 : ∀ w ∈ wsX50, w ∈ wsL_law := fun _ h => List.mem_append_left _ (List.mem_append_left _ (List.mem_append_left _ (List.mem_append_left _ (List.mem_append_right _ h))))
theorem inlX6 : ∀ w ∈ wsX60, w ∈ wsL_law := fun _ h => List.mem_append_left _ (List.mem_append_left _ (List.mem_append_left _ (List.mem_append_left _ (List.mem_append_left _ (List.mem_append_left _ (List.mem_append_left _ (List.mem_append_left _ (List.mem_append_right _ h))))))))
theorem inlX7 : ∀ w ∈ wsX70, w ∈ wsL_law := fun _ h => List.mem_append_left _ (List.mem_append_left _ (List.mem_append_left _ (List.mem_append_left _ (List.mem_append_left _ (List.mem_append_left _ (List.mem_append_left _ (List.mem_append_right _ h)))))))
abbrev vwCl : List vw_C := [(RX0, TX0, 2), (RX1, TX1, 5), (RX2, TX2, 3), (RX3, TX3, 9), (RX4, TX4, 6), (RX5, TX5, 5), (RX6, TX6, 10), (RX7, TX7, 47)]
end
section
theorem kmem {big ws : List Cond} (ps : List Nat) (h : ps.map (fun i => big[i]?) = ws.map some) : ∀ w ∈ ws, w ∈ big := by
  intro w hw
  have h1 : some w ∈ ps.map (fun i => big[i]?) := by rw [h]; exact List.mem_map.mpr ⟨w, hw, rfl⟩
  obtain ⟨i, -, hi⟩ := List.mem_map.mp h1
  exact List.mem_of_getElem? hi
set_option maxRecDepth 20000 in
theorem kin_1 : ∀ w ∈ wsL_law_r1, w ∈ lw_tbl := kmem [123, 124, 108, 853, 854, 119, 125, 126, 127, 128, 129, 130, 131, 132, 109, 440, 161, 442, 163, 164, 110, 448, 176, 449] (by decide +kernel)
set_option maxRecDepth 20000 in
theorem kin_2 : ∀ w ∈ wsL_law_r2, w ∈ lw_tbl := kmem [178, 111, 200, 112, 271, 272, 117, 441, 443, 395, 396, 118, 444, 445, 446, 134, 135, 136, 160, 139, 141, 143, 145, 166] (by decide +kernel)
set_option maxRecDepth 20000 in
theorem kin_3 : ∀ w ∈ wsL_law_r3, w ∈ lw_tbl := kmem [167, 168, 170, 179, 180, 181, 182, 186, 187, 188, 183, 202, 203, 204, 205, 209, 219, 220, 221, 113, 222, 1478, 223, 224] (by decide +kernel)
set_option maxRecDepth 20000 in
theorem kin_4 : ∀ w ∈ wsL_law_r4, w ∈ lw_tbl := kmem [225, 226, 227, 1479, 229, 230, 231, 232, 233, 234, 235, 236, 237, 238, 114, 239, 240, 241, 242, 243, 245, 246, 115, 247] (by decide +kernel)
set_option maxRecDepth 20000 in
theorem kin_5 : ∀ w ∈ wsL_law_r5, w ∈ lw_tbl := kmem [248, 249, 116, 250, 251, 252, 253, 254, 255, 256, 257, 258, 259, 260, 261, 263, 265, 267, 268, 269, 270, 137, 273, 274] (by decide +kernel)
set_option maxRecDepth 20000 in
theorem kin_6 : ∀ w ∈ wsL_law_r6, w ∈ lw_tbl := kmem [275, 276, 277, 278, 294, 295, 296, 297, 279, 140, 280, 281, 298, 299, 300, 301, 185, 302, 303, 304, 305, 146, 306, 307] (by decide +kernel)
set_option maxRecDepth 20000 in
theorem kin_7 : ∀ w ∈ wsL_law_r7, w ∈ lw_tbl := kmem [308, 309, 310, 311, 312, 314, 0, 315, 316, 317, 318, 319, 321, 1, 322, 323, 325, 2, 326, 328, 330, 3, 331, 332] (by decide +kernel)
set_option maxRecDepth 20000 in
theorem kin_8 : ∀ w ∈ wsL_law_r8, w ∈ lw_tbl := kmem [333, 339, 341, 4, 342, 349, 351, 5, 352, 353, 355, 6, 356, 357, 359, 7, 360, 361, 363, 8, 364, 142, 365, 367] (by decide +kernel)
set_option maxRecDepth 20000 in
theorem kin_9 : ∀ w ∈ wsL_law_r9, w ∈ lw_tbl := kmem [9, 368, 369, 371, 10, 377, 379, 11, 380, 373, 374, 375, 376, 381, 382, 383, 384, 385, 386, 372, 144, 387, 388, 389] (by decide +kernel)
set_option maxRecDepth 20000 in
theorem kin_10 : ∀ w ∈ wsL_law_r10, w ∈ lw_tbl := kmem [390, 391, 392, 393, 394, 397, 398, 399, 400, 405, 412, 414, 416, 401, 418, 420, 410, 855, 856, 857, 858, 863, 864, 867] (by decide +kernel)
set_option maxRecDepth 20000 in
theorem kin_11 : ∀ w ∈ wsL_law_r11, w ∈ lw_tbl := kmem [870, 871, 872, 873, 874, 891, 892, 893, 894, 895, 897, 898, 899, 900, 901, 1004, 905, 906, 907, 908, 865, 859, 861, 30] (by decide +kernel)
set_option maxRecDepth 20000 in
theorem kin_12 : ∀ w ∈ wsL_law_r12, w ∈ lw_tbl := kmem [862, 471, 472, 473, 474, 479, 481, 404, 406, 415, 417, 475, 477, 12, 478, 409, 483, 485, 13, 486, 1005, 1006, 1007, 1008] (by decide +kernel)
set_option maxRecDepth 20000 in
theorem kin_13 : ∀ w ∈ wsL_law_r13, w ∈ lw_tbl := kmem [1009, 1010, 1011, 1012, 1013, 1015, 31, 1016, 875, 1017, 1018, 1019, 1020, 1021, 1022, 1023, 1024, 1025, 1026, 1027, 1028, 1029, 1030, 869] (by decide +kernel)
set_option maxRecDepth 20000 in
theorem kin_14 : ∀ w ∈ wsL_law_r14, w ∈ lw_tbl := kmem [1031, 1033, 32, 1034, 1035, 1037, 33, 1038, 1039, 1041, 34, 1042, 1043, 1045, 35, 1046, 876, 877, 878, 879, 880, 881, 866, 1047] (by decide +kernel)
set_option maxRecDepth 20000 in
theorem kin_15 : ∀ w ∈ wsL_law_r15, w ∈ lw_tbl := kmem [1048, 1049, 1050, 1052, 36, 1053, 882, 883, 884, 888, 889, 885, 1054, 1056, 37, 1057, 886, 1062, 1063, 1064, 1065, 887, 1058, 1060] (by decide +kernel)
set_option maxRecDepth 20000 in
theorem kin_16 : ∀ w ∈ wsL_law_r16, w ∈ lw_tbl := kmem [38, 1061, 1066, 1068, 39, 1069, 1070, 1072, 40, 1073, 1074, 1076, 41, 1077, 1078, 1080, 42, 1081, 890, 1082, 1084, 43, 1085, 1086] (by decide +kernel)
set_option maxRecDepth 20000 in
theorem kin_17 : ∀ w ∈ wsL_law_r17, w ∈ lw_tbl := kmem [1088, 44, 1089, 1090, 1092, 45, 1093, 1139, 1094, 1096, 46, 1097, 1098, 1100, 47, 1101, 1102, 1104, 48, 1105, 1106, 1108, 49, 1109] (by decide +kernel)
set_option maxRecDepth 20000 in
theorem kin_18 : ∀ w ∈ wsL_law_r18, w ∈ lw_tbl := kmem [1110, 1112, 50, 1113, 1114, 1116, 51, 1117, 1118, 1120, 52, 1121, 1138, 1122, 1124, 53, 1125, 1126, 1128, 54, 1129, 1130, 1132, 55] (by decide +kernel)
set_option maxRecDepth 20000 in
theorem kin_19 : ∀ w ∈ wsL_law_r19, w ∈ lw_tbl := kmem [1133, 1134, 1136, 56, 1137, 1140, 1142, 57, 1143, 1144, 1146, 58, 1147, 1148, 1150, 59, 1151, 1152, 1154, 60, 1155, 1156, 1158, 61] (by decide +kernel)
set_option maxRecDepth 20000 in
theorem kin_20 : ∀ w ∈ wsL_law_r20, w ∈ lw_tbl := kmem [1159, 1160, 1162, 62, 1163, 1164, 1166, 63, 1167, 1168, 1170, 64, 1171, 1172, 1174, 65, 1175, 1176, 1178, 66, 1179, 1180, 1182, 67] (by decide +kernel)
set_option maxRecDepth 20000 in
theorem kin_21 : ∀ w ∈ wsL_law_r21, w ∈ lw_tbl := kmem [1183, 1184, 1186, 68, 1187, 1188, 1190, 69, 1191, 1192, 1194, 70, 1195, 1196, 1198, 71, 1199, 1200, 1202, 72, 1203, 1204, 1206, 73] (by decide +kernel)
set_option maxRecDepth 20000 in
theorem kin_22 : ∀ w ∈ wsL_law_r22, w ∈ lw_tbl := kmem [1207, 1208, 1210, 74, 1211, 1212, 1214, 75, 1215, 1216, 1218, 76, 1219, 1220, 1222, 77, 1223, 1224, 1226, 78, 1227, 1228, 1230, 79] (by decide +kernel)
set_option maxRecDepth 20000 in
theorem kin_23 : ∀ w ∈ wsL_law_r23, w ∈ lw_tbl := kmem [1231, 1232, 1234, 80, 1235, 1236, 1238, 81, 1239, 1240, 1241, 1242, 1243, 1245, 82, 1246, 1247, 1249, 83, 1250, 487, 488, 489, 490] (by decide +kernel)
set_option maxRecDepth 20000 in
theorem kin_24 : ∀ w ∈ wsL_law_r24, w ∈ lw_tbl := kmem [491, 493, 14, 494, 495, 496, 497, 498, 408, 1251, 1252, 1253, 1254, 1255, 1256, 1258, 84, 1259, 499, 500, 501, 502, 419, 503] (by decide +kernel)
set_option maxRecDepth 20000 in
theorem kin_25 : ∀ w ∈ wsL_law_r25, w ∈ lw_tbl := kmem [505, 15, 506, 507, 508, 509, 510, 1260, 1261, 1262, 1263, 1264, 1266, 85, 1267, 511, 512, 513, 514, 413, 515, 516, 517, 518] (by decide +kernel)
set_option maxRecDepth 20000 in
theorem kin_26 : ∀ w ∈ wsL_law_r26, w ∈ lw_tbl := kmem [519, 520, 521, 522, 523, 524, 525, 526, 527, 528, 529, 530, 531, 533, 16, 534, 403, 536, 537, 120, 538, 535, 539, 540] (by decide +kernel)
set_option maxRecDepth 20000 in
theorem kin_27 : ∀ w ∈ wsL_law_r27, w ∈ lw_tbl := kmem [541, 542, 549, 550, 551, 552, 553, 554, 543, 544, 545, 546, 547, 548, 1268, 555, 556, 557, 558, 138, 1269, 1270, 1271, 1272] (by decide +kernel)
set_option maxRecDepth 20000 in
theorem kin_28 : ∀ w ∈ wsL_law_r28, w ∈ lw_tbl := kmem [1273, 868, 559, 560, 561, 562, 1274, 1275, 1276, 1277, 563, 564, 565, 566, 411, 184, 1278, 1279, 1280, 1281, 567, 568, 569, 570] (by decide +kernel)
set_option maxRecDepth 20000 in
theorem kin_29 : ∀ w ∈ wsL_law_r29, w ∈ lw_tbl := kmem [571, 572, 573, 574, 575, 576, 577, 578, 579, 580, 581, 1282, 1283, 1284, 1285, 1286, 1288, 86, 1289, 1290, 1292, 87, 1293, 582] (by decide +kernel)
set_option maxRecDepth 20000 in
theorem kin_30 : ∀ w ∈ wsL_law_r30, w ∈ lw_tbl := kmem [583, 584, 585, 586, 587, 588, 589, 591, 590, 592, 593, 594, 595, 596, 1294, 1295, 1296, 1297, 1298, 1300, 88, 1301, 1302, 1304] (by decide +kernel)
set_option maxRecDepth 20000 in
theorem kin_31 : ∀ w ∈ wsL_law_r31, w ∈ lw_tbl := kmem [89, 1305, 597, 598, 599, 600, 601, 602, 603, 604, 606, 605, 1306, 1307, 1308, 1309, 1310, 1312, 90, 1313, 607, 608, 609, 610] (by decide +kernel)
set_option maxRecDepth 20000 in
theorem kin_32 : ∀ w ∈ wsL_law_r32, w ∈ lw_tbl := kmem [611, 613, 17, 614, 615, 616, 617, 618, 407, 169, 619, 620, 621, 622, 623, 624, 625, 626, 627, 628, 630, 18, 631, 632] (by decide +kernel)
set_option maxRecDepth 20000 in
theorem kin_33 : ∀ w ∈ wsL_law_r33, w ∈ lw_tbl := kmem [634, 19, 635, 636, 637, 638, 639, 647, 640, 641, 642, 121, 643, 644, 645, 646, 648, 649, 650, 651, 652, 653, 654, 655] (by decide +kernel)
set_option maxRecDepth 20000 in
theorem kin_34 : ∀ w ∈ wsL_law_r34, w ∈ lw_tbl := kmem [656, 657, 658, 659, 660, 661, 662, 663, 664, 666, 20, 667, 668, 1314, 1315, 1316, 1317, 1318, 1320, 91, 1321, 1322, 1324, 92] (by decide +kernel)
set_option maxRecDepth 20000 in
theorem kin_35 : ∀ w ∈ wsL_law_r35, w ∈ lw_tbl := kmem [1325, 1326, 1328, 93, 1329, 1330, 1332, 94, 1333, 1334, 1336, 95, 1337, 1338, 1340, 96, 1341, 1342, 1344, 97, 1345, 669, 670, 671] (by decide +kernel)
set_option maxRecDepth 20000 in
theorem kin_36 : ∀ w ∈ wsL_law_r36, w ∈ lw_tbl := kmem [672, 673, 1346, 1347, 1348, 1349, 674, 675, 676, 677, 678, 679, 680, 681, 682, 683, 684, 685, 687, 686, 122, 688, 689, 690] (by decide +kernel)
set_option maxRecDepth 20000 in
theorem kin_37 : ∀ w ∈ wsL_law_r37, w ∈ lw_tbl := kmem [691, 692, 693, 694, 1350, 1351, 1352, 1353, 1354, 1355, 1356, 1358, 98, 1359, 896, 1360, 1362, 99, 1363, 1364, 1366, 100, 1367, 695] (by decide +kernel)
set_option maxRecDepth 20000 in
theorem kin_38 : ∀ w ∈ wsL_law_r38, w ∈ lw_tbl := kmem [696, 697, 698, 699, 700, 701, 1368, 1369, 1370, 1371, 1372, 702, 703, 704, 705, 1373, 1374, 1375, 1376, 1377, 1379, 101, 1380, 706] (by decide +kernel)
set_option maxRecDepth 20000 in
theorem kin_39 : ∀ w ∈ wsL_law_r39, w ∈ lw_tbl := kmem [707, 708, 709, 710, 712, 21, 713, 1381, 1382, 1383, 1384, 714, 715, 716, 717, 1385, 1386, 1387, 1388, 1389, 1390, 1392, 102, 1393] (by decide +kernel)
set_option maxRecDepth 20000 in
theorem kin_40 : ∀ w ∈ wsL_law_r40, w ∈ lw_tbl := kmem [1394, 1396, 103, 1397, 718, 719, 720, 721, 1398, 1399, 1400, 1401, 722, 723, 724, 725, 726, 727, 728, 729, 730, 1402, 1403, 1404] (by decide +kernel)
set_option maxRecDepth 20000 in
theorem kin_41 : ∀ w ∈ wsL_law_r41, w ∈ lw_tbl := kmem [1405, 731, 732, 733, 734, 208, 735, 736, 737, 738, 739, 740, 741, 742, 744, 22, 745, 746, 747, 748, 749, 207, 750, 752] (by decide +kernel)
set_option maxRecDepth 20000 in
theorem kin_42 : ∀ w ∈ wsL_law_r42, w ∈ lw_tbl := kmem [23, 753, 754, 756, 24, 757, 210, 758, 760, 25, 761, 762, 764, 26, 765, 766, 768, 27, 769, 770, 772, 28, 773, 1406] (by decide +kernel)
set_option maxRecDepth 20000 in
theorem kin_43 : ∀ w ∈ wsL_law_r43, w ∈ lw_tbl := kmem [1407, 1408, 1409, 1413, 1410, 1411, 1412, 1414, 1416, 104, 1417, 1418, 1420, 105, 1421, 774, 775, 776, 777, 778, 779, 780, 781, 782] (by decide +kernel)
set_option maxRecDepth 20000 in
theorem kin_44 : ∀ w ∈ wsL_law_r44, w ∈ lw_tbl := kmem [783, 784, 785, 1422, 1423, 1424, 1425, 1426, 1427, 1428, 1429, 786, 787, 788, 789, 790, 792, 29, 793, 794, 1430, 1431, 1432, 1433] (by decide +kernel)
set_option maxRecDepth 20000 in
theorem kin_45 : ∀ w ∈ wsL_law_r45, w ∈ lw_tbl := kmem [1434, 1436, 106, 1437, 1438, 795, 796, 797, 798, 799, 800, 801, 802, 803, 1439, 1440, 1441, 1442, 1443, 804, 805, 806, 807, 447] (by decide +kernel)
set_option maxRecDepth 20000 in
theorem kin_46 : ∀ w ∈ wsL_law_r46, w ∈ lw_tbl := kmem [1444, 1445, 1446, 1447, 902, 903, 904, 808, 809, 810, 811, 1448, 1449, 1450, 1451, 812, 813, 814, 815, 816, 817, 818, 819, 1452] (by decide +kernel)
set_option maxRecDepth 20000 in
theorem kin_47 : ∀ w ∈ wsL_law_r47, w ∈ lw_tbl := kmem [1453, 1454, 1455, 820, 821, 822, 823, 824, 825, 826, 1456, 827, 828, 829, 830, 831, 832, 833, 834, 1457, 1458, 1459, 1460, 835] (by decide +kernel)
set_option maxRecDepth 20000 in
theorem kin_48 : ∀ w ∈ wsL_law_r48, w ∈ lw_tbl := kmem [836, 837, 838, 206, 839, 1461, 1462, 1463, 1464, 840, 841, 842, 843, 1465, 1466, 1467, 1468, 1469, 1470, 844, 845, 846, 847, 848] (by decide +kernel)
set_option maxRecDepth 20000 in
theorem kin_49 : ∀ w ∈ wsL_law_r49, w ∈ lw_tbl := kmem [849, 850, 851, 1471, 1472, 1473, 1474, 1475, 1476, 1477] (by decide +kernel)
set_option maxRecDepth 20000 in
theorem kin_wsX60 : ∀ w ∈ wsX60, w ∈ lw_tbl := kmem [450, 452, 454, 456, 458, 460, 462, 464, 466, 468] (by decide +kernel)
set_option maxRecDepth 20000 in
theorem kin_wsX70 : ∀ w ∈ wsX70, w ∈ lw_tbl := kmem [909, 911, 913, 915, 917, 919, 921, 923, 925, 927, 929, 931, 933, 935, 937, 939, 941, 943, 945, 947, 949, 951, 953, 955, 957, 959, 961, 963, 965, 967, 969, 971, 973, 975, 977, 979, 981, 983, 985, 987, 989, 991, 993, 995, 997, 999, 1001] (by decide +kernel)
set_option maxRecDepth 20000 in
theorem kin_wsX40 : ∀ w ∈ wsX40, w ∈ lw_tbl := kmem [147, 149, 151, 153, 155, 157] (by decide +kernel)
set_option maxRecDepth 20000 in
theorem kin_wsX00 : ∀ w ∈ wsX00, w ∈ lw_tbl := kmem [171, 173] (by decide +kernel)
set_option maxRecDepth 20000 in
theorem kin_wsX50 : ∀ w ∈ wsX50, w ∈ lw_tbl := kmem [189, 191, 193, 195, 197] (by decide +kernel)
set_option maxRecDepth 20000 in
theorem kin_wsX20 : ∀ w ∈ wsX20, w ∈ lw_tbl := kmem [211, 213, 215] (by decide +kernel)
set_option maxRecDepth 20000 in
theorem kin_wsX10 : ∀ w ∈ wsX10, w ∈ lw_tbl := kmem [282, 284, 286, 288, 290] (by decide +kernel)
set_option maxRecDepth 20000 in
theorem kin_wsX30 : ∀ w ∈ wsX30, w ∈ lw_tbl := kmem [421, 423, 425, 427, 429, 431, 433, 435, 437] (by decide +kernel)
theorem wsL_law_in : ∀ w ∈ wsL_law, w ∈ lw_tbl := List.forall_mem_append.mpr ⟨List.forall_mem_append.mpr ⟨List.forall_mem_append.mpr ⟨List.forall_mem_append.mpr ⟨List.forall_mem_append.mpr ⟨List.forall_mem_append.mpr ⟨List.forall_mem_append.mpr ⟨List.forall_mem_append.mpr ⟨List.forall_mem_append.mpr ⟨List.forall_mem_append.mpr ⟨kin_1, List.forall_mem_append.mpr ⟨kin_2, List.forall_mem_append.mpr ⟨kin_3, List.forall_mem_append.mpr ⟨kin_4, List.forall_mem_append.mpr ⟨kin_5, List.forall_mem_append.mpr ⟨kin_6, List.forall_mem_append.mpr ⟨kin_7, List.forall_mem_append.mpr ⟨kin_8, List.forall_mem_append.mpr ⟨kin_9, List.forall_mem_append.mpr ⟨kin_10, List.forall_mem_append.mpr ⟨kin_11, List.forall_mem_append.mpr ⟨kin_12, List.forall_mem_append.mpr ⟨kin_13, List.forall_mem_append.mpr ⟨kin_14, List.forall_mem_append.mpr ⟨kin_15, List.forall_mem_append.mpr ⟨kin_16, List.forall_mem_append.mpr ⟨kin_17, List.forall_mem_append.mpr ⟨kin_18, List.forall_mem_append.mpr ⟨kin_19, List.forall_mem_append.mpr ⟨kin_20, List.forall_mem_append.mpr ⟨kin_21, List.forall_mem_append.mpr ⟨kin_22, List.forall_mem_append.mpr ⟨kin_23, List.forall_mem_append.mpr ⟨kin_24, List.forall_mem_append.mpr ⟨kin_25, List.forall_mem_append.mpr ⟨kin_26, List.forall_mem_append.mpr ⟨kin_27, List.forall_mem_append.mpr ⟨kin_28, List.forall_mem_append.mpr ⟨kin_29, List.forall_mem_append.mpr ⟨kin_30, List.forall_mem_append.mpr ⟨kin_31, List.forall_mem_append.mpr ⟨kin_32, List.forall_mem_append.mpr ⟨kin_33, List.forall_mem_append.mpr ⟨kin_34, List.forall_mem_append.mpr ⟨kin_35, List.forall_mem_append.mpr ⟨kin_36, List.forall_mem_append.mpr ⟨kin_37, List.forall_mem_append.mpr ⟨kin_38, List.forall_mem_append.mpr ⟨kin_39, List.forall_mem_append.mpr ⟨kin_40, List.forall_mem_append.mpr ⟨kin_41, List.forall_mem_append.mpr ⟨kin_42, List.forall_mem_append.mpr ⟨kin_43, List.forall_mem_append.mpr ⟨kin_44, List.forall_mem_append.mpr ⟨kin_45, List.forall_mem_append.mpr ⟨kin_46, List.forall_mem_append.mpr ⟨kin_47, List.forall_mem_append.mpr ⟨kin_48, kin_49⟩⟩⟩⟩⟩⟩⟩⟩⟩⟩⟩⟩⟩⟩⟩⟩⟩⟩⟩⟩⟩⟩⟩⟩⟩⟩⟩⟩⟩⟩⟩⟩⟩⟩⟩⟩⟩⟩⟩⟩⟩⟩⟩⟩⟩⟩⟩⟩, kin_wsX60⟩, kin_wsX70⟩, kin_wsX40⟩, kin_wsX00⟩, kin_wsX50⟩, kin_wsX20⟩, kin_wsX10⟩, kin_wsX30⟩, fun _ h => absurd h List.not_mem_nil⟩
end
section
/-! THE ENGINE: what the bytecode does to a list of cells, as a function. A value is the machine's own; .ref k is the k-th cell (from xB on one of those outside), .retAddr j a number that is not known but for its range (j = 32 * what is added + 2 * which + (1: as a long)), .float a reference that nobody asks for. -/
def xB : Nat := 1048576
abbrev xCel : Type := Nat × List Value
abbrev xRG : Type := List (Int × Int)
abbrev xFr : Type := Nat × List (Option Value) × List Value × List xCel × xRG × Nat × Nat
abbrev xLf : Type := Option Value × List xCel × xRG
abbrev xRes : Type := Option (xFr ⊕ (xLf ⊕ List xFr))
abbrev xTb : Type := List (List (Instr × Nat))
abbrev xMI : Type := MethodName × ByteArray × Nat × Nat × Nat × Nat × Nat × Nat × Nat × xTb
def xnth {α : Type} : List α → Nat → Option α
  | [], _ => none
  | a :: _, 0 => some a
  | _ :: l, n + 1 => xnth l n
theorem xnth_eq {α : Type} : ∀ (l : List α) (n : Nat), xnth l n = l[n]?
  | [], n => by simp [xnth]
  | a :: l, 0 => by simp [xnth]
  | a :: l, n + 1 => by simp [xnth, xnth_eq l n]
def xset {α β : Type} : List α → Nat → α → (List α → β) → β
  | [], _, _, K => K []
  | _ :: l, 0, v, K => K (v :: l)
  | a :: l, n + 1, v, K => xset l n v (fun l' => K (a :: l'))
theorem xset_eq {α β : Type} : ∀ (l : List α) (n : Nat) (v : α) (K : List α → β), xset l n v K = K (l.set n v)
  | [], n, v, K => by simp [xset]
  | a :: l, 0, v, K => by simp [xset]
  | a :: l, n + 1, v, K => by simp [xset, xset_eq l n v]
def xfN {β : Type} (n : Nat) (K : Nat → β) : β := match n with
  | 0 => K 0
  | k + 1 => K (k + 1)
theorem xfN_eq {β : Type} (n : Nat) (K : Nat → β) : xfN n K = K n := by cases n <;> rfl
def xfI {β : Type} (x : Int32) (K : Int32 → β) : β := match x.toBitVec.toNat with
  | 0 => K 0
  | n + 1 => K (Int32.ofNat (n + 1))
theorem xfI_ofNat (x : Int32) : Int32.ofNat x.toBitVec.toNat = x := by
  apply Int32.toBitVec_inj.mp
  simp
theorem xfI_eq {β : Type} (x : Int32) (K : Int32 → β) : xfI x K = K x := by
  have h := xfI_ofNat x
  unfold xfI
  split
  · next h0 => rw [h0] at h; exact congrArg K h
  · next n h0 => rw [h0] at h; exact congrArg K h
def xisI : Value → Bool
  | .int _ => true
  | .retAddr j => j % 2 == 0
  | _ => false
def xisL : Value → Bool
  | .long _ => true
  | .retAddr j => j % 2 == 1
  | _ => false
def xisR : Value → Bool
  | .ref _ => true
  | .null => true
  | .float _ => true
  | _ => false
def xc2 : Value → Bool
  | .long _ => true
  | .double _ => true
  | .retAddr j => j % 2 == 1
  | _ => false
/-- the range of an int -/
def xiv (rg : xRG) : Value → Option (Int × Int)
  | .int x => some (x.toInt, x.toInt)
  | .retAddr j => if j < 32 then (if j % 2 = 0 then xnth rg (j / 2) else none) else none
  | _ => none
/-- the range of a long -/
def xlv (rg : xRG) : Value → Option (Int × Int)
  | .long x => some (x.toInt, x.toInt)
  | .retAddr j => if j < 32 then (if j % 2 = 1 then xnth rg (j / 2) else none) else none
  | _ => none
/-- an int that is known -/
def xci (rg : xRG) : Value → Option Int32
  | .int x => some x
  | .retAddr j => if j % 2 = 0 then (match xnth rg (j % 32 / 2) with
    | some (lo, hi) => if lo = hi then some (Int32.ofInt lo + Int32.ofNat (j / 32)) else none
    | none => none) else none
  | _ => none
def xcl : Value → Option Int64
  | .long x => some x
  | _ => none
/-- two ranges for one: below t, and from t on -/
def xsp (rg : xRG) (v : Value) (t : Int) : Option (List xRG) := match v with
  | .retAddr j => if j < 32 then (match xnth rg (j / 2) with
    | some (lo, hi) => if lo < t then (if t ≤ hi then some [rg.set (j / 2) (lo, t - 1), rg.set (j / 2) (t, hi)] else none) else none
    | none => none) else none
  | _ => none
def xcs (rg : xRG) (v : Value) : Option (List xRG) := match v with
  | .retAddr j => (match xnth rg (j % 32 / 2) with
    | some (lo, hi) => if hi - lo ≤ 300 then xsp rg (.retAddr (j % 32)) (lo + 1) else none
    | none => none)
  | _ => none
def xelse {α : Type} (a b : Option α) : Option α := match a with
  | some x => some x
  | none => b
def xlt (a b : Int × Int) : Option Bool := if a.2 < b.1 then some true else if b.2 ≤ a.1 then some false else none
def xeq (a b : Int × Int) : Option Bool := if a.2 < b.1 then some false else if b.2 < a.1 then some false else if a.1 = a.2 then (if b.1 = b.2 then some true else none) else none
def xnot (a : Option Bool) : Option Bool := match a with
  | some b => some (!b)
  | none => none
def xcmp (c : ClassFile.Cond) (a b : Int × Int) : Option Bool := match c with
  | .lt => xlt a b
  | .ge => xnot (xlt a b)
  | .gt => xlt b a
  | .le => xnot (xlt b a)
  | .eq => xeq a b
  | .ne => xnot (xeq a b)
def xgo (pc : Nat) (lo : List (Option Value)) (st : List Value) (C : List xCel) (rg : xRG) (uc us : Nat) : xRes := some (.inl (pc, lo, st, C, rg, uc, us))
def xfork (pc : Nat) (lo : List (Option Value)) (st : List Value) (C : List xCel) (uc us : Nat) (o : Option (List xRG)) : xRes := match o with
  | none => none
  | some l => some (.inr (.inr (l.map fun rg => (pc, lo, st, C, rg, uc, us))))
def xtg (pc : Nat) (off : Int) : Option Nat := match (pc : Int) + off with
  | .ofNat n => some n
  | .negSucc _ => none
def xjump (pc : Nat) (off : Int) (lo : List (Option Value)) (st : List Value) (C : List xCel) (rg : xRG) (uc us : Nat) : xRes := match xtg pc off with
  | some t => xgo t lo st C rg uc us
  | none => none
def xfall (pc : Nat) (off : Int) (lo : List (Option Value)) (st : List Value) (C : List xCel) (rg : xRG) (uc us : Nat) : xRes := match xtg pc off with
  | some _ => xgo (pc + 3) lo st C rg uc us
  | none => none
/-- a store into the locals -/
def xst1 {β : Type} (lo : List (Option Value)) (i : Nat) (v : Value) (K : List (Option Value) → β) : β := xset lo i (some v) fun l1 => match i with
  | 0 => K l1
  | k + 1 => (match xnth l1 k with
    | some (some w) => if xc2 w then xset l1 k none K else K l1
    | _ => K l1)
def xst2 {β : Type} (lo : List (Option Value)) (i : Nat) (v : Value) (K : List (Option Value) → β) : β := xst1 lo i v fun l1 => xset l1 (i + 1) none K
section XE
variable (pc : Nat) (lo : List (Option Value)) (st : List Value) (C : List xCel) (rg : xRG) (uc us : Nat)
def xload (ok : Value → Bool) (i len : Nat) : xRes := match xnth lo i with
  | some (some v) => if ok v then xgo (pc + len) lo (v :: st) C rg uc us else none
  | _ => none
def xstore1 (ok : Value → Bool) (mx i len : Nat) : xRes := match st with
  | v :: r => if ok v then (if i < mx then xst1 lo i v fun l1 => xgo (pc + len) l1 r C rg uc us else none) else none
  | [] => none
def xstore2 (mx i len : Nat) : xRes := match st with
  | v :: r => if xisL v then (if i + 1 < mx then xst2 lo i v fun l1 => xgo (pc + len) l1 r C rg uc us else none) else none
  | [] => none
def xbin (f : Int32 → Int32 → Option Int32) : xRes := match st with
  | b :: a :: r => (match xci rg a with
    | some x => (match xci rg b with
      | some y => (match f x y with
        | some z => xfI z fun z => xgo (pc + 1) lo (.int z :: r) C rg uc us
        | none => none)
      | none => xfork pc lo st C uc us (xcs rg b))
    | none => xfork pc lo st C uc us (xcs rg a))
  | _ => none
def xadd : xRes := match st with
  | .int y :: .retAddr j :: r => (match xci rg (.retAddr j) with
    | some _ => xbin pc lo st C rg uc us (fun x y => some (x + y))
    | none => (match xcs rg (.retAddr j) with
      | some l => xfork pc lo st C uc us (some l)
      | none => if j % 2 = 0 then xgo (pc + 1) lo (.retAddr (j + 32 * y.toBitVec.toNat) :: r) C rg uc us else none))
  | _ => xbin pc lo st C rg uc us (fun x y => some (x + y))
def xun (f : Int32 → Int32) : xRes := match st with
  | a :: r => (match xci rg a with
    | some x => xfI (f x) fun z => xgo (pc + 1) lo (.int z :: r) C rg uc us
    | none => xfork pc lo st C uc us (xcs rg a))
  | _ => none
def xbinL (f : Int64 → Int64 → Option Int64) : xRes := match st with
  | b :: a :: r => (match xcl a with
    | some x => (match xcl b with
      | some y => (match f x y with
        | some z => xgo (pc + 1) lo (.long z :: r) C rg uc us
        | none => none)
      | none => none)
    | none => none)
  | _ => none
def xi2l : xRes := match st with
  | .int x :: r => xgo (pc + 1) lo (.long x.toInt64 :: r) C rg uc us
  | .retAddr j :: r => if j % 2 = 0 then xgo (pc + 1) lo (.retAddr (j + 1) :: r) C rg uc us else none
  | _ => none
def xl2i : xRes := match st with
  | .long x :: r => xgo (pc + 1) lo (.int x.toInt32 :: r) C rg uc us
  | .retAddr j :: r => if j % 2 = 1 then xgo (pc + 1) lo (.retAddr (j - 1) :: r) C rg uc us else none
  | _ => none
def xlcmp : xRes := match st with
  | b :: a :: r => (match xlv rg a with
    | some ia => (match xlv rg b with
      | some ib => if ia.2 < ib.1 then xgo (pc + 1) lo (.int (-1) :: r) C rg uc us
        else if ib.2 < ia.1 then xgo (pc + 1) lo (.int 1 :: r) C rg uc us
        else if ia.1 = ia.2 ∧ ib.1 = ib.2 then xgo (pc + 1) lo (.int 0 :: r) C rg uc us
        else xfork pc lo st C uc us (xelse (xsp rg a ib.1) (xelse (xsp rg a (ib.1 + 1)) (xelse (xsp rg b ia.1) (xsp rg b (ia.1 + 1)))))
      | none => none)
    | none => none)
  | _ => none
def xicmp (c : ClassFile.Cond) (off : Int) : xRes := match st with
  | b :: a :: r => (match xiv rg a with
    | some ia => (match xiv rg b with
      | some ib => (match xcmp c ia ib with
        | some true => xjump pc off lo r C rg uc us
        | some false => xfall pc off lo r C rg uc us
        | none => xfork pc lo st C uc us (xelse (xsp rg a ib.1) (xelse (xsp rg a (ib.1 + 1)) (xelse (xsp rg b ia.1) (xsp rg b (ia.1 + 1))))))
      | none => none)
    | none => none)
  | _ => none
def xif (c : ClassFile.Cond) (off : Int) : xRes := match st with
  | a :: r => (match xiv rg a with
    | some ia => (match xcmp c ia (0, 0) with
      | some true => xjump pc off lo r C rg uc us
      | some false => xfall pc off lo r C rg uc us
      | none => xfork pc lo st C uc us (xelse (xsp rg a 0) (xsp rg a 1)))
    | none => none)
  | _ => none
def xiinc (mx i : Nat) (n : Int) : xRes := match xnth lo i with
  | some (some v) => if i < mx then (match xci rg v with
    | some x => xfI (x + Int32.ofInt n) fun z => xst1 lo i (.int z) fun l1 => xgo (pc + 3) l1 st C rg uc us
    | none => xfork pc lo st C uc us (xcs rg v)) else none
  | _ => none
def xtable (d low hi : Int) (offs : List Int) : xRes := match st with
  | a :: r => (match xiv rg a with
    | some ia => if ia.2 < low then xjump pc d lo r C rg uc us
      else if hi < ia.1 then xjump pc d lo r C rg uc us
      else if ia.1 = ia.2 then (match xnth offs (ia.1 - low).toNat with
        | some off => xjump pc off lo r C rg uc us
        | none => none)
      else xfork pc lo st C uc us (xelse (xsp rg a low) (xelse (xsp rg a (hi + 1)) (xsp rg a (ia.1 + 1))))
    | none => none)
  | _ => none
def xlook (d : Int) (ps : List (Int × Int)) : xRes := match st with
  | a :: r => (match xci rg a with
    | some x => if (ps.zip (ps.drop 1)).all (fun (a, next) => a.1 < next.1) then xjump pc (Op.lookupswitch.offset ps d x.toInt) lo r C rg uc us else none
    | none => xfork pc lo st C uc us (xelse (xcs rg a) (match ps with
      | (t, _) :: _ => xelse (xsp rg a t) (match ps.getLast? with
        | some (u, _) => xsp rg a (u + 1)
        | none => none)
      | [] => none)))
  | _ => none
def xdup : xRes := match st with
  | a :: r => if xc2 a then none else xgo (pc + 1) lo (a :: a :: r) C rg uc us
  | _ => none
def xdup2 : xRes := match st with
  | a :: b :: r => if xc2 a then xgo (pc + 1) lo (a :: a :: b :: r) C rg uc us else if xc2 b then none else xgo (pc + 1) lo (a :: b :: a :: b :: r) C rg uc us
  | [a] => if xc2 a then xgo (pc + 1) lo [a, a] C rg uc us else none
  | _ => none
def xpop1 : xRes := match st with
  | a :: r => if xc2 a then none else xgo (pc + 1) lo r C rg uc us
  | _ => none
end XE
end
section
/-! the tables of this class, its reference and the JDK's methods that they reach, by program-/
def xcn : Nat → String
  | 0 => RX0
  | 1 => RX1
  | 2 => RX2
  | 3 => RX3
  | 4 => RX4
  | 5 => RX5
  | 6 => RX6
  | 7 => RX7
  | 10 => RJ0
  | 11 => RJ1
  | 12 => RJ2
  | 13 => RJ3
  | 16 => RJ6
  | 19 => RJ9
  | 20 => RJ10
  | _ => ""
def xas {α : Type} : List (Nat × α) → Nat → Option α
  | [], _ => none
  | (k, v) :: l, n => bif Nat.beq k n then some v else xas l n
def xStat : List (String × String × String × Value) := [("StreetTillTen", "KIND_ABOVE", "[I", .ref xB), ("StreetTillTen", "LEAST_SETTING", "[I", .ref (xB + 1)), ("StreetTillTen", "MOST_SETTING", "[I", .ref (xB + 2)), ("java/lang/String", "COMPACT_STRINGS", "Z", .int 1), ("jdk/internal/util/Preconditions", "SIOOBE_FORMATTER", "Ljava/util/function/BiFunction;", .float 0)]
def xTab : List (List Int32) := [[-1, 0, 0, 1, 2, 0], [0, 1, 0, -1], [999, 99, 9, 3]]
def xByt : List (List Int32) := [[109, 101, 101, 116, 115, 32, 53, 32, 59, 32, 102, 97, 100, 101, 115, 32, 50, 32, 59, 32, 115, 111, 117, 110, 100, 115, 32, 115, 101, 97, 116, 115, 32, 59], [115, 116, 114, 101, 110, 103, 116, 104], [110, 117, 109, 98, 101, 114], [111, 116, 104, 101, 114], [115, 101, 97, 116, 115], [121, 101, 97, 114], [97, 112, 97, 114, 116], [109, 101, 101, 116, 115], [102, 97, 100, 101, 115], [115, 111, 117, 110, 100, 115], [111, 114], [97, 110, 100], [110, 111, 116]]
def xStr : List (Nat × Nat × String) := [(6, 39, "meets 5 ; fades 2 ; sounds seats ;"), (4, 57, "strength"), (4, 63, "number"), (4, 65, "other"), (4, 67, "seats"), (4, 69, "year"), (4, 71, "apart"), (4, 73, "meets"), (4, 75, "fades"), (4, 77, "sounds"), (4, 79, "or"), (4, 81, "and"), (4, 83, "not")]
def xflL0 : List (Nat × Nat × Nat) := [(21, 0, 0), (9, 0, 1), (15, 3, 2)]
def xflL1 : List (Nat × Nat × Nat) := [(37, 1, 3), (15, 1, 1), (29, 1, 2), (9, 1, 0), (40, 1, 4), (33, 4, 1), (83, 4, 2), (80, 4, 3)]
def xflL2 : List (Nat × Nat × Nat) := [(15, 2, 2), (9, 2, 0), (19, 2, 1)]
def xflL3 : List (Nat × Nat × Nat) := [(42, 3, 2), (32, 3, 8), (22, 3, 6), (27, 3, 7), (19, 3, 5), (15, 3, 4), (35, 3, 3), (39, 3, 0), (9, 3, 1)]
def xflL4 : List (Nat × Nat × Nat) := [(28, 4, 5), (21, 4, 4), (24, 4, 0), (11, 4, 1), (15, 4, 2), (18, 4, 3)]
def xflL5 : List (Nat × Nat × Nat) := [(18, 5, 4), (25, 5, 1), (15, 5, 3), (9, 5, 2), (21, 5, 0)]
def xflL6 : List (Nat × Nat × Nat) := [(80, 6, 4), (84, 6, 5), (195, 3, 2), (25, 6, 8), (113, 3, 6), (18, 6, 2), (31, 6, 9), (71, 6, 3), (10, 6, 0), (123, 3, 7), (268, 2, 2), (104, 3, 0), (110, 3, 5), (147, 3, 3), (60, 6, 1), (87, 6, 6), (131, 3, 4), (265, 2, 0), (107, 3, 1), (144, 4, 0), (151, 5, 0), (252, 6, 7), (224, 2, 1)]
def xflL7 : List (Nat × Nat × Nat) := [(88, 7, 13), (193, 7, 27), (203, 7, 26), (32, 7, 11), (189, 7, 25), (178, 7, 23), (169, 7, 22), (23, 7, 8), (121, 7, 7), (13, 7, 1), (29, 7, 10), (47, 7, 32), (85, 7, 3), (78, 7, 46), (160, 7, 6), (26, 7, 9), (35, 7, 12), (68, 7, 43), (124, 7, 4), (72, 7, 44), (75, 7, 45), (44, 7, 31), (175, 7, 24), (38, 7, 29), (41, 7, 30), (17, 7, 2), (65, 7, 39), (20, 7, 5), (50, 7, 33), (53, 7, 35), (56, 7, 36), (59, 7, 37), (62, 7, 38), (163, 7, 21), (216, 7, 14), (219, 7, 15), (222, 7, 16), (225, 7, 17), (228, 7, 18), (231, 7, 19), (166, 7, 20), (197, 7, 28), (406, 7, 34), (457, 7, 40), (460, 7, 41), (463, 7, 42)]
def xflL10 : List (Nat × Nat × Nat) := [(9, 200, 0), (15, 200, 1)]
def xas2 {α : Type} (L : List (Nat × List (Nat × α))) (own idx : Nat) : Option α := match xas L own with
  | some l => xas l idx
  | none => none
def xflA : List (Nat × List (Nat × Nat × Nat)) := [(7, xflL7), (6, xflL6), (3, xflL3), (4, xflL4), (1, xflL1), (5, xflL5), (0, xflL0), (2, xflL2), (10, xflL10)]
def xfl (own idx : Nat) : Option (Nat × Nat) := xas2 xflA own idx
def xgsA : List (Nat × List (Nat × Nat)) := [(6, [(93, 1), (97, 2), (280, 0)]), (10, [(38, 3), (1053, 4)])]
def xgs (own idx : Nat) : Option Nat := xas2 xgsA own idx
def xmlL0 : List (Nat × Nat) := [(26, 18), (45, 19), (40, 2), (3, 0), (22, 41), (30, 12), (34, 243), (48, 16)]
def xmlL1 : List (Nat × Nat) := [(54, 23), (77, 27), (47, 28), (67, 70), (43, 22), (50, 26), (63, 25), (60, 24), (3, 0), (19, 69), (24, 59), (70, 29), (74, 30), (57, 71)]
def xmlL2 : List (Nat × Nat) := [(3, 0)]
def xmlL3 : List (Nat × Nat) := [(45, 1), (59, 50), (55, 45), (63, 72), (51, 41), (72, 47), (79, 40), (83, 48), (3, 0), (67, 4), (76, 3), (86, 2), (99, 55), (102, 49), (89, 51), (92, 52), (95, 43)]
def xmlL4 : List (Nat × Nat) := [(59, 64), (35, 66), (42, 67), (85, 244), (3, 0), (31, 65), (38, 60), (45, 61), (48, 62), (91, 245), (52, 63)]
def xmlL5 : List (Nat × Nat) := [(1, 0), (36, 3), (41, 2), (28, 73), (32, 74)]
def xmlL6 : List (Nat × Nat) := [(186, 38), (90, 107), (154, 113), (189, 53), (217, 109), (220, 32), (163, 51), (166, 43), (176, 11), (183, 111), (262, 34), (77, 37), (100, 115), (207, 17), (239, 33), (51, 57), (64, 21), (68, 58), (116, 116), (119, 108), (172, 117), (201, 12), (204, 14), (192, 112), (213, 13), (301, 36), (311, 127), (242, 35), (244, 119), (259, 110), (1, 0), (35, 68), (41, 244), (47, 245), (57, 20), (283, 39), (127, 40), (134, 42), (138, 45), (141, 49), (157, 47), (160, 48), (169, 52), (286, 15), (289, 44), (292, 54), (180, 16), (198, 118), (210, 41), (225, 121), (229, 125), (232, 126), (235, 122), (305, 123), (308, 124), (249, 120), (296, 2), (256, 46), (271, 1), (277, 114), (9, 56), (24, 10), (38, 31)]
def xmlL7 : List (Nat × Nat) := [(209, 145), (234, 149), (91, 128), (212, 148), (237, 150), (206, 146), (105, 132), (139, 136), (200, 147), (172, 144), (436, 236), (241, 151), (81, 131), (155, 202), (379, 203), (385, 204), (413, 213), (420, 214), (425, 217), (133, 137), (376, 198), (367, 192), (357, 188), (330, 179), (312, 173), (294, 167), (276, 161), (258, 155), (245, 152), (267, 158), (285, 164), (303, 170), (321, 176), (117, 135), (370, 194), (373, 195), (397, 207), (416, 215), (113, 141), (148, 142), (152, 196), (364, 193), (361, 189), (351, 186), (348, 185), (253, 154), (248, 153), (273, 160), (270, 159), (261, 156), (291, 166), (288, 165), (279, 162), (309, 172), (306, 171), (297, 168), (327, 178), (324, 177), (315, 174), (345, 184), (342, 183), (339, 182), (333, 180), (127, 129), (136, 139), (382, 199), (403, 210), (388, 205), (430, 221), (433, 222), (441, 226), (452, 230), (7, 0), (109, 133), (354, 187), (264, 157), (282, 163), (300, 169), (318, 175), (336, 181), (400, 209), (391, 206), (394, 208), (444, 227), (448, 237), (468, 138), (471, 241)]
def xmlL10 : List (Nat × Nat) := [(335, 246), (492, 247), (495, 249), (1059, 254), (498, 252)]
def xmlL11 : List (Nat × Nat) := [(9, 248)]
def xmlL12 : List (Nat × Nat) := [(48, 251), (67, 253), (414, 248), (71, 250)]
def xmlA : List (Nat × List (Nat × Nat)) := [(7, xmlL7), (6, xmlL6), (3, xmlL3), (4, xmlL4), (1, xmlL1), (5, xmlL5), (0, xmlL0), (2, xmlL2), (10, xmlL10), (11, xmlL11), (12, xmlL12)]
def xml (own idx : Nat) : Option Nat := xas2 xmlA own idx
def xklA : List (Nat × List (Nat × Nat)) := [(3, [(25, 104)]), (6, [(7, 4), (16, 5), (22, 0), (29, 2), (55, 1), (75, 3)])]
def xkl (own idx : Nat) : Option Nat := xas2 xklA own idx
def xcoA : List (Nat × List (Nat × Int32)) := [(6, [(295, 1103515245)]), (7, [(451, 1103515245)]), (16, [(265, 1431655765), (266, 858993459), (267, 252645135)])]
def xco (own idx : Nat) : Option Int32 := xas2 xcoA own idx
def xcoLA : List (Nat × List (Nat × Int64)) := [(6, [(247, (-4611686018427387904))]), (7, [(97, 3), (95, (-1)), (99, 999), (101, 99), (103, 9), (142, 10), (144, 17), (146, 7), (181, 97), (183, 122), (185, 48), (187, 57), (256, 60), (251, 43), (131, 5), (158, 255), (409, 20), (411, 4), (423, 28), (428, 2), (439, 6), (455, (-4611686018427387904)), (466, 8)])]
def xcoL (own idx : Nat) : Option Int64 := xas2 xcoLA own idx
def xlsA : List (Nat × List (Nat × Nat)) := [(6, [(39, 0)]), (4, [(57, 1), (63, 2), (65, 3), (67, 4), (69, 5), (71, 6), (73, 7), (75, 8), (77, 9), (79, 10), (81, 11), (83, 12)])]
def xls (own idx : Nat) : Option Nat := xas2 xlsA own idx
def xDf : List (List Value) := [[.int 0, .null], [.null, .null, .int 0, .int 0, .int 0], [.int 0, .int 0, .null], [.int 0, .int 0, .int 0, .null, .null, .null, .null, .null, .null], [.int 0, .null, .null, .null, .null, .int 0], [.int 0, .int 0, .null, .null, .null], [.null, .null, .null, .int 0, .null, .null, .null, .int 0, .null, .null], [.int 0, .null, .null, .int 0, .int 0, .null, .int 0, .int 0, .int 0, .null, .null, .null, .null, .int 0, .int 0, .int 0, .int 0, .int 0, .int 0, .int 0, .int 0, .int 0, .int 0, .int 0, .int 0, .long 0, .int 0, .int 0, .int 0, .int 0, .int 0, .int 0, .null, .null, .int 0, .null, .null, .null, .null, .int 0, .int 0, .int 0, .int 0, .null, .null, .null, .null]]
def xTy : List (List Nat) := [[0, 2], [2, 2, 0, 0, 0], [0, 0, 2], [0, 0, 0, 2, 2, 2, 2, 2, 2], [0, 2, 2, 2, 2, 0], [0, 0, 2, 2, 2], [2, 2, 2, 0, 2, 2, 2, 1, 2, 2], [0, 2, 2, 0, 0, 2, 0, 0, 0, 2, 2, 2, 2, 0, 0, 0, 0, 0, 0, 0, 0, 0, 0, 0, 0, 3, 0, 1, 0, 0, 0, 0, 2, 2, 0, 2, 2, 2, 2, 0, 0, 0, 0, 2, 2, 2, 2]]
def xFi : List (List Bool) := [[false, true], [true, false, false, false, false], [false, false, true], [false, false, false, false, true, true, true, true, true], [false, true, true, true, true, false], [true, false, true, true, true], [true, true, true, false, true, true, true, false, true, true], [false, true, true, false, false, true, false, false, false, true, true, true, true, false, false, false, false, false, false, false, false, false, false, false, false, false, false, false, false, false, false, false, true, true, false, true, true, true, true, false, false, false, false, true, true, true, true]]
def xty (ci k : Nat) : Nat := match xnth xTy ci with
  | some l => (match xnth l k with
    | some t => t
    | none => 9)
  | none => 9
def xfin (ci k : Nat) : Bool := match xnth xFi ci with
  | some l => (match xnth l k with
    | some t => t
    | none => true)
  | none => true
def xt0 : xTb := [[(.aload_n 0, 1), (.invokespecial 3, 3), (.athrow, 0), (.athrow, 0), (.aload_n 0, 1), (.bipush 8, 2), (.athrow, 0), (.newarray .int, 2)], [(.athrow, 0), (.putfield 9, 3), (.athrow, 0), (.athrow, 0), (.return_, 1)]]
def xt1 : xTb := [[(.aload_n 0, 1), (.aload_n 1, 1), (.getfield 15, 3), (.athrow, 0), (.athrow, 0), (.putfield 21, 3), (.athrow, 0), (.athrow, 0)], [(.iconst 0, 1), (.istore_n 2, 1), (.iload_n 2, 1), (.aload_n 0, 1), (.getfield 21, 3), (.athrow, 0), (.athrow, 0), (.if_icmp .ge 53, 3)], [(.athrow, 0), (.athrow, 0), (.aload_n 0, 1), (.getfield 9, 3), (.athrow, 0), (.athrow, 0), (.iload_n 2, 1), (.iconst 0, 1)], [(.iastore, 1), (.iconst 0, 1), (.istore_n 3, 1), (.iload_n 3, 1), (.aload_n 0, 1), (.getfield 21, 3), (.athrow, 0), (.athrow, 0)], [(.if_icmp .ge 30, 3), (.athrow, 0), (.athrow, 0), (.aload_n 1, 1), (.iload_n 2, 1), (.iload_n 3, 1), (.invokevirtual 22, 3), (.athrow, 0)], [(.athrow, 0), (.ifCond .eq 15, 3), (.athrow, 0), (.athrow, 0), (.aload_n 0, 1), (.getfield 9, 3), (.athrow, 0), (.athrow, 0)], [(.iload_n 2, 1), (.dup2, 1), (.iaload, 1), (.iconst 1, 1), (.iload_n 3, 1), (.ishl, 1), (.ior, 1), (.iastore, 1)], [(.iinc 3 1, 3), (.athrow, 0), (.athrow, 0), (.goto (-32), 3), (.athrow, 0), (.athrow, 0), (.iinc 2 1, 3), (.athrow, 0)], [(.athrow, 0), (.goto (-55), 3), (.athrow, 0), (.athrow, 0), (.return_, 1)]]
def xt2 : xTb := [[(.iconst 1, 1), (.aload_n 0, 1), (.getfield 21, 3), (.athrow, 0), (.athrow, 0), (.ishl, 1), (.iconst 1, 1), (.isub, 1)], [(.ireturn, 1)]]
def xt3 : xTb := [[(.aload_n 0, 1), (.getfield 9, 3), (.athrow, 0), (.athrow, 0), (.iload_n 1, 1), (.dup2, 1), (.iaload, 1), (.iconst 1, 1)], [(.iload_n 2, 1), (.ishl, 1), (.ixor, 1), (.iastore, 1), (.aload_n 0, 1), (.getfield 9, 3), (.athrow, 0), (.athrow, 0)], [(.iload_n 2, 1), (.dup2, 1), (.iaload, 1), (.iconst 1, 1), (.iload_n 1, 1), (.ishl, 1), (.ixor, 1), (.iastore, 1)], [(.return_, 1)]]
def xt4 : xTb := [[(.iconst 0, 1), (.istore_n 2, 1), (.iload_n 1, 1), (.istore_n 3, 1), (.iconst 0, 1), (.istore 4, 2), (.athrow, 0), (.iload 4, 2)], [(.athrow, 0), (.aload_n 0, 1), (.getfield 21, 3), (.athrow, 0), (.athrow, 0), (.if_icmp .ge 34, 3), (.athrow, 0), (.athrow, 0)], [(.iload_n 3, 1), (.iload 4, 2), (.athrow, 0), (.ishr, 1), (.iconst 1, 1), (.iand, 1), (.iconst 1, 1), (.if_icmp .ne 18, 3)], [(.athrow, 0), (.athrow, 0), (.iinc 2 1, 3), (.athrow, 0), (.athrow, 0), (.iload_n 3, 1), (.aload_n 0, 1), (.iload 4, 2)], [(.athrow, 0), (.iload_n 1, 1), (.invokevirtual 26, 3), (.athrow, 0), (.athrow, 0), (.iconst (-1), 1), (.ixor, 1), (.iand, 1)], [(.istore_n 3, 1), (.iinc 4 1, 3), (.athrow, 0), (.athrow, 0), (.goto (-37), 3), (.athrow, 0), (.athrow, 0), (.iload_n 2, 1)], [(.ireturn, 1)]]
def xt5 : xTb := [[(.iconst 0, 1), (.istore_n 1, 1), (.iconst 0, 1), (.istore_n 2, 1), (.iload_n 2, 1), (.aload_n 0, 1), (.getfield 21, 3), (.athrow, 0)], [(.athrow, 0), (.if_icmp .ge 26, 3), (.athrow, 0), (.athrow, 0), (.iload_n 1, 1), (.aload_n 0, 1), (.iload_n 2, 1), (.aload_n 0, 1)], [(.invokevirtual 30, 3), (.athrow, 0), (.athrow, 0), (.invokevirtual 26, 3), (.athrow, 0), (.athrow, 0), (.invokestatic 34, 3), (.athrow, 0)], [(.athrow, 0), (.invokestatic 40, 3), (.athrow, 0), (.athrow, 0), (.istore_n 1, 1), (.iinc 2 1, 3), (.athrow, 0), (.athrow, 0)], [(.goto (-28), 3), (.athrow, 0), (.athrow, 0), (.iload_n 1, 1), (.ireturn, 1)]]
def xt6 : xTb := [[(.iconst 1, 1), (.iload_n 1, 1), (.ishl, 1), (.istore_n 3, 1), (.iconst 0, 1), (.istore 4, 2), (.athrow, 0), (.iload 4, 2)], [(.athrow, 0), (.bipush 8, 2), (.athrow, 0), (.if_icmp .ge 27, 3), (.athrow, 0), (.athrow, 0), (.iload_n 3, 1), (.iload_n 2, 1)], [(.ishr, 1), (.iconst 1, 1), (.iand, 1), (.iconst 1, 1), (.if_icmp .ne 6, 3), (.athrow, 0), (.athrow, 0), (.iload 4, 2)], [(.athrow, 0), (.ireturn, 1), (.aload_n 0, 1), (.iload_n 3, 1), (.invokevirtual 45, 3), (.athrow, 0), (.athrow, 0), (.istore_n 3, 1)], [(.iinc 4 1, 3), (.athrow, 0), (.athrow, 0), (.goto (-28), 3), (.athrow, 0), (.athrow, 0), (.iconst (-1), 1), (.ireturn, 1)]]
def xt7 : xTb := [[(.iconst 0, 1), (.istore_n 2, 1), (.iconst 0, 1), (.istore_n 3, 1), (.iload_n 3, 1), (.aload_n 0, 1), (.getfield 21, 3), (.athrow, 0)], [(.athrow, 0), (.if_icmp .ge 55, 3), (.athrow, 0), (.athrow, 0), (.iload_n 3, 1), (.iconst 1, 1), (.iadd, 1), (.istore 4, 2)], [(.athrow, 0), (.iload 4, 2), (.athrow, 0), (.aload_n 0, 1), (.getfield 21, 3), (.athrow, 0), (.athrow, 0), (.if_icmp .ge 35, 3)], [(.athrow, 0), (.athrow, 0), (.aload_n 0, 1), (.iload_n 3, 1), (.iload 4, 2), (.athrow, 0), (.invokevirtual 48, 3), (.athrow, 0)], [(.athrow, 0), (.istore 5, 2), (.athrow, 0), (.iload_n 2, 1), (.iload 5, 2), (.athrow, 0), (.iconst (-1), 1), (.if_icmp .ne 7, 3)], [(.athrow, 0), (.athrow, 0), (.iload_n 1, 1), (.goto 5, 3), (.athrow, 0), (.athrow, 0), (.iload 5, 2), (.athrow, 0)], [(.invokestatic 40, 3), (.athrow, 0), (.athrow, 0), (.istore_n 2, 1), (.iinc 4 1, 3), (.athrow, 0), (.athrow, 0), (.goto (-38), 3)], [(.athrow, 0), (.athrow, 0), (.iinc 3 1, 3), (.athrow, 0), (.athrow, 0), (.goto (-57), 3), (.athrow, 0), (.athrow, 0)], [(.iload_n 2, 1), (.ireturn, 1)]]
def xt8 : xTb := [[(.iconst 1, 1), (.iload_n 1, 1), (.ishl, 1), (.istore_n 3, 1), (.iconst 0, 1), (.istore 4, 2), (.athrow, 0), (.iload 4, 2)], [(.athrow, 0), (.bipush 8, 2), (.athrow, 0), (.if_icmp .ge 17, 3), (.athrow, 0), (.athrow, 0), (.aload_n 0, 1), (.iload_n 3, 1)], [(.invokevirtual 45, 3), (.athrow, 0), (.athrow, 0), (.iload_n 2, 1), (.iand, 1), (.istore_n 3, 1), (.iinc 4 1, 3), (.athrow, 0)], [(.athrow, 0), (.goto (-18), 3), (.athrow, 0), (.athrow, 0), (.iload_n 3, 1), (.ireturn, 1)]]
def xt9 : xTb := [[(.iload_n 1, 1), (.istore_n 2, 1), (.iconst 0, 1), (.istore_n 3, 1), (.iload_n 3, 1), (.aload_n 0, 1), (.getfield 21, 3), (.athrow, 0)], [(.athrow, 0), (.if_icmp .ge 27, 3), (.athrow, 0), (.athrow, 0), (.iload_n 1, 1), (.iload_n 3, 1), (.ishr, 1), (.iconst 1, 1)], [(.iand, 1), (.iconst 1, 1), (.if_icmp .ne 12, 3), (.athrow, 0), (.athrow, 0), (.iload_n 2, 1), (.aload_n 0, 1), (.getfield 9, 3)], [(.athrow, 0), (.athrow, 0), (.iload_n 3, 1), (.iaload, 1), (.ior, 1), (.istore_n 2, 1), (.iinc 3 1, 3), (.athrow, 0)], [(.athrow, 0), (.goto (-29), 3), (.athrow, 0), (.athrow, 0), (.iload_n 2, 1), (.ireturn, 1)]]
def xt10 : xTb := [[(.aload_n 0, 1), (.invokespecial 3, 3), (.athrow, 0), (.athrow, 0), (.aload_n 0, 1), (.aload_n 1, 1), (.putfield 9, 3), (.athrow, 0)], [(.athrow, 0), (.aload_n 0, 1), (.aload_n 2, 1), (.putfield 15, 3), (.athrow, 0), (.athrow, 0), (.return_, 1)]]
def xt11 : xTb := [[(.aload_n 0, 1), (.aload_n 1, 1), (.putfield 15, 3), (.athrow, 0), (.athrow, 0), (.aload_n 0, 1), (.getfield 15, 3), (.athrow, 0)], [(.athrow, 0), (.invokevirtual 19, 3), (.athrow, 0), (.athrow, 0), (.aload_n 0, 1), (.getfield 9, 3), (.athrow, 0), (.athrow, 0)], [(.invokevirtual 24, 3), (.athrow, 0), (.athrow, 0), (.aload_n 0, 1), (.iconst 0, 1), (.putfield 29, 3), (.athrow, 0), (.athrow, 0)], [(.aload_n 0, 1), (.aload_n 0, 1), (.getfield 9, 3), (.athrow, 0), (.athrow, 0), (.getfield 33, 3), (.athrow, 0), (.athrow, 0)], [(.iconst 0, 1), (.iaload, 1), (.putfield 37, 3), (.athrow, 0), (.athrow, 0), (.aload_n 0, 1), (.iconst (-1), 1), (.putfield 40, 3)], [(.athrow, 0), (.athrow, 0), (.aload_n 0, 1), (.sipush 304, 3), (.athrow, 0), (.athrow, 0), (.iconst 0, 1), (.invokevirtual 43, 3)], [(.athrow, 0), (.athrow, 0), (.aload_n 0, 1), (.sipush 305, 3), (.athrow, 0), (.athrow, 0), (.iconst 1, 1), (.invokevirtual 43, 3)], [(.athrow, 0), (.athrow, 0), (.aload_n 0, 1), (.sipush 306, 3), (.athrow, 0), (.athrow, 0), (.iconst 2, 1), (.invokevirtual 43, 3)], [(.athrow, 0), (.athrow, 0), (.aload_n 0, 1), (.getfield 37, 3), (.athrow, 0), (.athrow, 0), (.sipush 300, 3), (.athrow, 0)], [(.athrow, 0), (.if_icmp .eq 7, 3), (.athrow, 0), (.athrow, 0), (.aload_n 0, 1), (.invokevirtual 47, 3), (.athrow, 0), (.athrow, 0)], [(.aload_n 0, 1), (.getfield 40, 3), (.athrow, 0), (.athrow, 0), (.ireturn, 1)]]
def xt12 : xTb := [[(.aload_n 0, 1), (.iload_n 1, 1), (.invokevirtual 50, 3), (.athrow, 0), (.athrow, 0), (.aload_n 0, 1), (.iconst 0, 1), (.iconst 0, 1)], [(.invokevirtual 54, 3), (.athrow, 0), (.athrow, 0), (.aload_n 0, 1), (.bipush 59, 2), (.athrow, 0), (.invokevirtual 50, 3), (.athrow, 0)], [(.athrow, 0), (.aload_n 0, 1), (.getfield 15, 3), (.athrow, 0), (.athrow, 0), (.iload_n 2, 1), (.invokevirtual 57, 3), (.athrow, 0)], [(.athrow, 0), (.return_, 1)]]
def xt13 : xTb := [[(.iload_n 1, 1), (.iconst 4, 1), (.if_icmp .le 9, 3), (.athrow, 0), (.athrow, 0), (.aload_n 0, 1), (.iload_n 2, 1), (.invokevirtual 60, 3)], [(.athrow, 0), (.athrow, 0), (.return_, 1), (.iload_n 1, 1), (.iconst 2, 1), (.if_icmp .ne 39, 3), (.athrow, 0), (.athrow, 0)], [(.aload_n 0, 1), (.getfield 37, 3), (.athrow, 0), (.athrow, 0), (.sipush 309, 3), (.athrow, 0), (.athrow, 0), (.if_icmp .ne 29, 3)], [(.athrow, 0), (.athrow, 0), (.aload_n 0, 1), (.iload_n 2, 1), (.invokevirtual 63, 3), (.athrow, 0), (.athrow, 0), (.ifCond .eq 20, 3)], [(.athrow, 0), (.athrow, 0), (.aload_n 0, 1), (.iconst 2, 1), (.iload_n 2, 1), (.iconst 1, 1), (.iadd, 1), (.invokevirtual 54, 3)], [(.athrow, 0), (.athrow, 0), (.aload_n 0, 1), (.getfield 15, 3), (.athrow, 0), (.athrow, 0), (.bipush (-14), 2), (.athrow, 0)], [(.invokevirtual 67, 3), (.athrow, 0), (.athrow, 0), (.return_, 1), (.aload_n 0, 1), (.iload_n 1, 1), (.iconst 1, 1), (.iadd, 1)], [(.iload_n 2, 1), (.invokevirtual 54, 3), (.athrow, 0), (.athrow, 0), (.iload_n 1, 1), (.iconst 2, 1), (.if_icmp .ne 7, 3), (.athrow, 0)], [(.athrow, 0), (.iconst 1, 1), (.goto 6, 3), (.athrow, 0), (.athrow, 0), (.sipush 160, 3), (.athrow, 0), (.athrow, 0)], [(.istore_n 3, 1), (.iconst 0, 1), (.istore 4, 2), (.athrow, 0), (.iload 4, 2), (.athrow, 0), (.iload_n 3, 1), (.if_icmp .ge 50, 3)], [(.athrow, 0), (.athrow, 0), (.aload_n 0, 1), (.getfield 37, 3), (.athrow, 0), (.athrow, 0), (.invokestatic 70, 3), (.athrow, 0)], [(.athrow, 0), (.iload_n 1, 1), (.if_icmp .ne 39, 3), (.athrow, 0), (.athrow, 0), (.aload_n 0, 1), (.getfield 37, 3), (.athrow, 0)], [(.athrow, 0), (.invokestatic 74, 3), (.athrow, 0), (.athrow, 0), (.istore 5, 2), (.athrow, 0), (.aload_n 0, 1), (.invokevirtual 77, 3)], [(.athrow, 0), (.athrow, 0), (.aload_n 0, 1), (.iload_n 1, 1), (.iconst 1, 1), (.iadd, 1), (.iload_n 2, 1), (.invokevirtual 54, 3)], [(.athrow, 0), (.athrow, 0), (.aload_n 0, 1), (.getfield 15, 3), (.athrow, 0), (.athrow, 0), (.iload 5, 2), (.athrow, 0)], [(.invokevirtual 67, 3), (.athrow, 0), (.athrow, 0), (.iinc 4 1, 3), (.athrow, 0), (.athrow, 0), (.goto (-50), 3), (.athrow, 0)], [(.athrow, 0), (.return_, 1)]]
def xt14 : xTb := [[(.aload_n 0, 1), (.getfield 37, 3), (.athrow, 0), (.athrow, 0), (.sipush 302, 3), (.athrow, 0), (.athrow, 0), (.if_icmp .eq 13, 3)], [(.athrow, 0), (.athrow, 0), (.aload_n 0, 1), (.getfield 37, 3), (.athrow, 0), (.athrow, 0), (.sipush 303, 3), (.athrow, 0)], [(.athrow, 0), (.if_icmp .ne 29, 3), (.athrow, 0), (.athrow, 0), (.aload_n 0, 1), (.getfield 15, 3), (.athrow, 0), (.athrow, 0)], [(.aload_n 0, 1), (.getfield 9, 3), (.athrow, 0), (.athrow, 0), (.getfield 80, 3), (.athrow, 0), (.athrow, 0), (.aload_n 0, 1)], [(.getfield 29, 3), (.athrow, 0), (.athrow, 0), (.iaload, 1), (.invokevirtual 67, 3), (.athrow, 0), (.athrow, 0), (.aload_n 0, 1)], [(.invokevirtual 77, 3), (.athrow, 0), (.athrow, 0), (.goto 77, 3), (.athrow, 0), (.athrow, 0), (.aload_n 0, 1), (.getfield 37, 3)], [(.athrow, 0), (.athrow, 0), (.bipush 45, 2), (.athrow, 0), (.if_icmp .ne 30, 3), (.athrow, 0), (.athrow, 0), (.aload_n 0, 1)], [(.iload_n 1, 1), (.invokevirtual 63, 3), (.athrow, 0), (.athrow, 0), (.ifCond .eq 60, 3), (.athrow, 0), (.athrow, 0), (.aload_n 0, 1)], [(.iload_n 1, 1), (.iconst 1, 1), (.iadd, 1), (.invokevirtual 60, 3), (.athrow, 0), (.athrow, 0), (.aload_n 0, 1), (.getfield 15, 3)], [(.athrow, 0), (.athrow, 0), (.bipush (-15), 2), (.athrow, 0), (.invokevirtual 67, 3), (.athrow, 0), (.athrow, 0), (.goto 41, 3)], [(.athrow, 0), (.athrow, 0), (.aload_n 0, 1), (.getfield 37, 3), (.athrow, 0), (.athrow, 0), (.bipush 40, 2), (.athrow, 0)], [(.if_icmp .ne 28, 3), (.athrow, 0), (.athrow, 0), (.aload_n 0, 1), (.iload_n 1, 1), (.invokevirtual 63, 3), (.athrow, 0), (.athrow, 0)], [(.ifCond .eq 24, 3), (.athrow, 0), (.athrow, 0), (.aload_n 0, 1), (.iconst 0, 1), (.iload_n 1, 1), (.iconst 1, 1), (.iadd, 1)], [(.invokevirtual 54, 3), (.athrow, 0), (.athrow, 0), (.aload_n 0, 1), (.bipush 41, 2), (.athrow, 0), (.invokevirtual 50, 3), (.athrow, 0)], [(.athrow, 0), (.goto 7, 3), (.athrow, 0), (.athrow, 0), (.aload_n 0, 1), (.invokevirtual 47, 3), (.athrow, 0), (.athrow, 0)], [(.return_, 1)]]
def xt15 : xTb := [[(.iload_n 1, 1), (.iconst 5, 1), (.if_icmp .lt 9, 3), (.athrow, 0), (.athrow, 0), (.aload_n 0, 1), (.invokevirtual 47, 3), (.athrow, 0)], [(.athrow, 0), (.iconst 0, 1), (.ireturn, 1), (.aload_n 0, 1), (.invokevirtual 77, 3), (.athrow, 0), (.athrow, 0), (.iconst 1, 1)], [(.ireturn, 1)]]
def xt16 : xTb := [[(.aload_n 0, 1), (.getfield 37, 3), (.athrow, 0), (.athrow, 0), (.iload_n 1, 1), (.if_icmp .ne 10, 3), (.athrow, 0), (.athrow, 0)], [(.aload_n 0, 1), (.invokevirtual 77, 3), (.athrow, 0), (.athrow, 0), (.goto 7, 3), (.athrow, 0), (.athrow, 0), (.aload_n 0, 1)], [(.invokevirtual 47, 3), (.athrow, 0), (.athrow, 0), (.return_, 1)]]
def xt17 : xTb := [[(.aload_n 0, 1), (.getfield 29, 3), (.athrow, 0), (.athrow, 0), (.sipush 160, 3), (.athrow, 0), (.athrow, 0), (.if_icmp .ge 29, 3)], [(.athrow, 0), (.athrow, 0), (.aload_n 0, 1), (.dup, 1), (.getfield 29, 3), (.athrow, 0), (.athrow, 0), (.iconst 1, 1)], [(.iadd, 1), (.putfield 29, 3), (.athrow, 0), (.athrow, 0), (.aload_n 0, 1), (.aload_n 0, 1), (.getfield 9, 3), (.athrow, 0)], [(.athrow, 0), (.getfield 33, 3), (.athrow, 0), (.athrow, 0), (.aload_n 0, 1), (.getfield 29, 3), (.athrow, 0), (.athrow, 0)], [(.iaload, 1), (.putfield 37, 3), (.athrow, 0), (.athrow, 0), (.return_, 1)]]
def xt18 : xTb := [[(.aload_n 0, 1), (.getfield 40, 3), (.athrow, 0), (.athrow, 0), (.iconst (-1), 1), (.if_icmp .ne 19, 3), (.athrow, 0), (.athrow, 0)], [(.aload_n 0, 1), (.aload_n 0, 1), (.getfield 9, 3), (.athrow, 0), (.athrow, 0), (.getfield 83, 3), (.athrow, 0), (.athrow, 0)], [(.aload_n 0, 1), (.getfield 29, 3), (.athrow, 0), (.athrow, 0), (.iaload, 1), (.putfield 40, 3), (.athrow, 0), (.athrow, 0)], [(.aload_n 0, 1), (.sipush 301, 3), (.athrow, 0), (.athrow, 0), (.putfield 37, 3), (.athrow, 0), (.athrow, 0), (.return_, 1)]]
def xt19 : xTb := [[(.iload_n 0, 1), (.lookupswitch 77 #[(42, 75), (43, 73), (45, 73), (60, 71), (61, 71), (307, 67), (308, 69)], 67), (.athrow, 0), (.athrow, 0), (.athrow, 0), (.athrow, 0), (.athrow, 0), (.athrow, 0)], [(.athrow, 0), (.athrow, 0), (.athrow, 0), (.athrow, 0), (.athrow, 0), (.athrow, 0), (.athrow, 0), (.athrow, 0)], [(.athrow, 0), (.athrow, 0), (.athrow, 0), (.athrow, 0), (.athrow, 0), (.athrow, 0), (.athrow, 0), (.athrow, 0)], [(.athrow, 0), (.athrow, 0), (.athrow, 0), (.athrow, 0), (.athrow, 0), (.athrow, 0), (.athrow, 0), (.athrow, 0)], [(.athrow, 0), (.athrow, 0), (.athrow, 0), (.athrow, 0), (.athrow, 0), (.athrow, 0), (.athrow, 0), (.athrow, 0)], [(.athrow, 0), (.athrow, 0), (.athrow, 0), (.athrow, 0), (.athrow, 0), (.athrow, 0), (.athrow, 0), (.athrow, 0)], [(.athrow, 0), (.athrow, 0), (.athrow, 0), (.athrow, 0), (.athrow, 0), (.athrow, 0), (.athrow, 0), (.athrow, 0)], [(.athrow, 0), (.athrow, 0), (.athrow, 0), (.athrow, 0), (.athrow, 0), (.athrow, 0), (.athrow, 0), (.athrow, 0)], [(.athrow, 0), (.athrow, 0), (.athrow, 0), (.athrow, 0), (.iconst 0, 1), (.ireturn, 1), (.iconst 1, 1), (.ireturn, 1)], [(.iconst 2, 1), (.ireturn, 1), (.iconst 3, 1), (.ireturn, 1), (.iconst 4, 1), (.ireturn, 1), (.iconst (-1), 1), (.ireturn, 1)]]
def xt20 : xTb := [[(.iload_n 0, 1), (.lookupswitch 77 #[(43, 71), (45, 74), (60, 65), (61, 68), (307, 59), (308, 62)], 59), (.athrow, 0), (.athrow, 0), (.athrow, 0), (.athrow, 0), (.athrow, 0), (.athrow, 0)], [(.athrow, 0), (.athrow, 0), (.athrow, 0), (.athrow, 0), (.athrow, 0), (.athrow, 0), (.athrow, 0), (.athrow, 0)], [(.athrow, 0), (.athrow, 0), (.athrow, 0), (.athrow, 0), (.athrow, 0), (.athrow, 0), (.athrow, 0), (.athrow, 0)], [(.athrow, 0), (.athrow, 0), (.athrow, 0), (.athrow, 0), (.athrow, 0), (.athrow, 0), (.athrow, 0), (.athrow, 0)], [(.athrow, 0), (.athrow, 0), (.athrow, 0), (.athrow, 0), (.athrow, 0), (.athrow, 0), (.athrow, 0), (.athrow, 0)], [(.athrow, 0), (.athrow, 0), (.athrow, 0), (.athrow, 0), (.athrow, 0), (.athrow, 0), (.athrow, 0), (.athrow, 0)], [(.athrow, 0), (.athrow, 0), (.athrow, 0), (.athrow, 0), (.athrow, 0), (.athrow, 0), (.athrow, 0), (.athrow, 0)], [(.athrow, 0), (.athrow, 0), (.athrow, 0), (.athrow, 0), (.bipush (-7), 2), (.athrow, 0), (.ireturn, 1), (.bipush (-8), 2)], [(.athrow, 0), (.ireturn, 1), (.bipush (-9), 2), (.athrow, 0), (.ireturn, 1), (.bipush (-10), 2), (.athrow, 0), (.ireturn, 1)], [(.bipush (-11), 2), (.athrow, 0), (.ireturn, 1), (.bipush (-12), 2), (.athrow, 0), (.ireturn, 1), (.bipush (-13), 2), (.athrow, 0)], [(.ireturn, 1)]]
def xt21 : xTb := [[(.aload_n 0, 1), (.invokespecial 3, 3), (.athrow, 0), (.athrow, 0), (.aload_n 0, 1), (.iconst (-1), 1), (.putfield 9, 3), (.athrow, 0)], [(.athrow, 0), (.aload_n 0, 1), (.bipush 40, 2), (.athrow, 0), (.newarray .int, 2), (.athrow, 0), (.putfield 15, 3), (.athrow, 0)], [(.athrow, 0), (.return_, 1)]]
def xt22 : xTb := [[(.aload_n 0, 1), (.getfield 9, 3), (.athrow, 0), (.athrow, 0), (.iconst (-1), 1), (.if_icmp .ne 7, 3), (.athrow, 0), (.athrow, 0)], [(.iconst 1, 1), (.goto 4, 3), (.athrow, 0), (.athrow, 0), (.iconst 0, 1), (.ireturn, 1)]]
def xt23 : xTb := [[(.aload_n 0, 1), (.iload_n 1, 1), (.putfield 9, 3), (.athrow, 0), (.athrow, 0), (.aload_n 0, 1), (.iload_n 2, 1), (.putfield 19, 3)], [(.athrow, 0), (.athrow, 0), (.iconst 0, 1), (.istore_n 3, 1), (.iload_n 3, 1), (.bipush 40, 2), (.athrow, 0), (.if_icmp .ge 16, 3)], [(.athrow, 0), (.athrow, 0), (.aload_n 0, 1), (.getfield 15, 3), (.athrow, 0), (.athrow, 0), (.iload_n 3, 1), (.iconst 0, 1)], [(.iastore, 1), (.iinc 3 1, 3), (.athrow, 0), (.athrow, 0), (.goto (-16), 3), (.athrow, 0), (.athrow, 0), (.return_, 1)]]
def xt24 : xTb := [[(.iload_n 2, 1), (.ifCond .lt 21, 3), (.athrow, 0), (.athrow, 0), (.iload_n 1, 1), (.ifCond .lt 17, 3), (.athrow, 0), (.athrow, 0)], [(.iload_n 1, 1), (.aload_n 0, 1), (.getfield 19, 3), (.athrow, 0), (.athrow, 0), (.iload_n 2, 1), (.isub, 1), (.if_icmp .gt 7, 3)], [(.athrow, 0), (.athrow, 0), (.iconst 1, 1), (.goto 4, 3), (.athrow, 0), (.athrow, 0), (.iconst 0, 1), (.ireturn, 1)]]
def xt25 : xTb := [[(.aload_n 0, 1), (.getfield 9, 3), (.athrow, 0), (.athrow, 0), (.lookupswitch 50 #[(0, 28), (1, 39)], 28), (.athrow, 0), (.athrow, 0), (.athrow, 0)], [(.athrow, 0), (.athrow, 0), (.athrow, 0), (.athrow, 0), (.athrow, 0), (.athrow, 0), (.athrow, 0), (.athrow, 0)], [(.athrow, 0), (.athrow, 0), (.athrow, 0), (.athrow, 0), (.athrow, 0), (.athrow, 0), (.athrow, 0), (.athrow, 0)], [(.athrow, 0), (.athrow, 0), (.athrow, 0), (.athrow, 0), (.athrow, 0), (.athrow, 0), (.athrow, 0), (.athrow, 0)], [(.aload_n 0, 1), (.getfield 15, 3), (.athrow, 0), (.athrow, 0), (.iload_n 1, 1), (.iload_n 2, 1), (.i2b, 1), (.iastore, 1)], [(.goto 21, 3), (.athrow, 0), (.athrow, 0), (.aload_n 0, 1), (.getfield 15, 3), (.athrow, 0), (.athrow, 0), (.iload_n 1, 1)], [(.iload_n 2, 1), (.i2s, 1), (.iastore, 1), (.goto 10, 3), (.athrow, 0), (.athrow, 0), (.aload_n 0, 1), (.getfield 15, 3)], [(.athrow, 0), (.athrow, 0), (.iload_n 1, 1), (.iload_n 2, 1), (.iastore, 1), (.return_, 1)]]
def xt26 : xTb := [[(.iconst 0, 1), (.istore_n 2, 1), (.iconst 0, 1), (.istore_n 3, 1), (.iload_n 3, 1), (.aload_n 0, 1), (.getfield 19, 3), (.athrow, 0)], [(.athrow, 0), (.if_icmp .ge 33, 3), (.athrow, 0), (.athrow, 0), (.iload_n 3, 1), (.aload_n 1, 1), (.arraylength, 1), (.if_icmp .ge 27, 3)], [(.athrow, 0), (.athrow, 0), (.aload_n 0, 1), (.getfield 15, 3), (.athrow, 0), (.athrow, 0), (.iload_n 3, 1), (.iaload, 1)], [(.aload_n 1, 1), (.iload_n 3, 1), (.iaload, 1), (.if_icmp .eq 9, 3), (.athrow, 0), (.athrow, 0), (.iload_n 2, 1), (.iconst 1, 1)], [(.iload_n 3, 1), (.ishl, 1), (.ior, 1), (.istore_n 2, 1), (.iinc 3 1, 3), (.athrow, 0), (.athrow, 0), (.goto (-35), 3)], [(.athrow, 0), (.athrow, 0), (.iload_n 2, 1), (.ireturn, 1)]]
def xt27 : xTb := [[(.aload_n 0, 1), (.invokespecial 3, 3), (.athrow, 0), (.athrow, 0), (.aload_n 0, 1), (.bipush 20, 2), (.athrow, 0), (.putfield 9, 3)], [(.athrow, 0), (.athrow, 0), (.aload_n 0, 1), (.bipush 8, 2), (.athrow, 0), (.newarray .int, 2), (.athrow, 0), (.putfield 15, 3)], [(.athrow, 0), (.athrow, 0), (.aload_n 0, 1), (.bipush 8, 2), (.athrow, 0), (.newarray .int, 2), (.athrow, 0), (.putfield 19, 3)], [(.athrow, 0), (.athrow, 0), (.aload_n 0, 1), (.bipush 8, 2), (.athrow, 0), (.newarray .int, 2), (.athrow, 0), (.putfield 22, 3)], [(.athrow, 0), (.athrow, 0), (.aload_n 0, 1), (.bipush 8, 2), (.athrow, 0), (.bipush 8, 2), (.athrow, 0), (.multianewarray 25 2, 4)], [(.athrow, 0), (.athrow, 0), (.athrow, 0), (.putfield 27, 3), (.athrow, 0), (.athrow, 0), (.aload_n 0, 1), (.bipush 6, 2)], [(.athrow, 0), (.newarray .int, 2), (.athrow, 0), (.putfield 32, 3), (.athrow, 0), (.athrow, 0), (.aload_n 0, 1), (.aload_n 1, 1)], [(.putfield 35, 3), (.athrow, 0), (.athrow, 0), (.return_, 1)]]
def xt28 : xTb := [[(.aload_n 0, 1), (.aload_n 1, 1), (.getfield 39, 3), (.athrow, 0), (.athrow, 0), (.putfield 39, 3), (.athrow, 0), (.athrow, 0)], [(.aload_n 0, 1), (.aload_n 1, 1), (.getfield 9, 3), (.athrow, 0), (.athrow, 0), (.putfield 9, 3), (.athrow, 0), (.athrow, 0)], [(.aload_n 0, 1), (.aload_n 1, 1), (.getfield 42, 3), (.athrow, 0), (.athrow, 0), (.putfield 42, 3), (.athrow, 0), (.athrow, 0)], [(.aload_n 0, 1), (.aload_n 1, 1), (.getfield 35, 3), (.athrow, 0), (.athrow, 0), (.putfield 35, 3), (.athrow, 0), (.athrow, 0)], [(.aload_n 1, 1), (.getfield 15, 3), (.athrow, 0), (.athrow, 0), (.iconst 0, 1), (.aload_n 0, 1), (.getfield 15, 3), (.athrow, 0)], [(.athrow, 0), (.iconst 0, 1), (.bipush 8, 2), (.athrow, 0), (.invokestatic 45, 3), (.athrow, 0), (.athrow, 0), (.aload_n 1, 1)], [(.getfield 19, 3), (.athrow, 0), (.athrow, 0), (.iconst 0, 1), (.aload_n 0, 1), (.getfield 19, 3), (.athrow, 0), (.athrow, 0)], [(.iconst 0, 1), (.bipush 8, 2), (.athrow, 0), (.invokestatic 45, 3), (.athrow, 0), (.athrow, 0), (.aload_n 1, 1), (.getfield 22, 3)], [(.athrow, 0), (.athrow, 0), (.iconst 0, 1), (.aload_n 0, 1), (.getfield 22, 3), (.athrow, 0), (.athrow, 0), (.iconst 0, 1)], [(.bipush 8, 2), (.athrow, 0), (.invokestatic 45, 3), (.athrow, 0), (.athrow, 0), (.iconst 0, 1), (.istore_n 2, 1), (.iload_n 2, 1)], [(.bipush 8, 2), (.athrow, 0), (.if_icmp .ge 28, 3), (.athrow, 0), (.athrow, 0), (.aload_n 1, 1), (.getfield 27, 3), (.athrow, 0)], [(.athrow, 0), (.iload_n 2, 1), (.aaload, 1), (.iconst 0, 1), (.aload_n 0, 1), (.getfield 27, 3), (.athrow, 0), (.athrow, 0)], [(.iload_n 2, 1), (.aaload, 1), (.iconst 0, 1), (.bipush 8, 2), (.athrow, 0), (.invokestatic 45, 3), (.athrow, 0), (.athrow, 0)], [(.iinc 2 1, 3), (.athrow, 0), (.athrow, 0), (.goto (-28), 3), (.athrow, 0), (.athrow, 0), (.return_, 1)]]
def xt29 : xTb := [[(.aload_n 0, 1), (.getfield 42, 3), (.athrow, 0), (.athrow, 0), (.bipush 8, 2), (.athrow, 0), (.if_icmp .lt 4, 3), (.athrow, 0)], [(.athrow, 0), (.return_, 1), (.aload_n 0, 1), (.getfield 15, 3), (.athrow, 0), (.athrow, 0), (.aload_n 0, 1), (.getfield 42, 3)], [(.athrow, 0), (.athrow, 0), (.iload_n 1, 1), (.iastore, 1), (.aload_n 0, 1), (.getfield 19, 3), (.athrow, 0), (.athrow, 0)], [(.aload_n 0, 1), (.getfield 42, 3), (.athrow, 0), (.athrow, 0), (.iload_n 2, 1), (.iastore, 1), (.aload_n 0, 1), (.getfield 22, 3)], [(.athrow, 0), (.athrow, 0), (.aload_n 0, 1), (.getfield 42, 3), (.athrow, 0), (.athrow, 0), (.iconst (-1), 1), (.iastore, 1)], [(.aload_n 0, 1), (.dup, 1), (.getfield 42, 3), (.athrow, 0), (.athrow, 0), (.iconst 1, 1), (.iadd, 1), (.putfield 42, 3)], [(.athrow, 0), (.athrow, 0), (.return_, 1)]]
def xt30 : xTb := [[(.aload_n 0, 1), (.getfield 27, 3), (.athrow, 0), (.athrow, 0), (.iload_n 1, 1), (.aaload, 1), (.iload_n 2, 1), (.iload_n 3, 1)], [(.iastore, 1), (.aload_n 0, 1), (.getfield 27, 3), (.athrow, 0), (.athrow, 0), (.iload_n 2, 1), (.aaload, 1), (.iload_n 1, 1)], [(.iload_n 3, 1), (.iastore, 1), (.return_, 1)]]
def xt31 : xTb := [[(.iload_n 1, 1), (.iload_n 2, 1), (.if_icmp .eq 22, 3), (.athrow, 0), (.athrow, 0), (.aload_n 0, 1), (.getfield 27, 3), (.athrow, 0)], [(.athrow, 0), (.iload_n 1, 1), (.aaload, 1), (.iload_n 2, 1), (.iaload, 1), (.aload_n 0, 1), (.getfield 9, 3), (.athrow, 0)], [(.athrow, 0), (.if_icmp .lt 7, 3), (.athrow, 0), (.athrow, 0), (.iconst 1, 1), (.goto 4, 3), (.athrow, 0), (.athrow, 0)], [(.iconst 0, 1), (.ireturn, 1)]]
def xt32 : xTb := [[(.iconst 0, 1), (.istore_n 2, 1), (.iconst 0, 1), (.istore_n 3, 1), (.iload_n 3, 1), (.aload_n 0, 1), (.getfield 42, 3), (.athrow, 0)], [(.athrow, 0), (.if_icmp .ge 21, 3), (.athrow, 0), (.athrow, 0), (.aload_n 0, 1), (.iload_n 1, 1), (.iload_n 3, 1), (.invokevirtual 51, 3)], [(.athrow, 0), (.athrow, 0), (.ifCond .eq 6, 3), (.athrow, 0), (.athrow, 0), (.iinc 2 1, 3), (.athrow, 0), (.athrow, 0)], [(.iinc 3 1, 3), (.athrow, 0), (.athrow, 0), (.goto (-23), 3), (.athrow, 0), (.athrow, 0), (.iload_n 2, 1), (.ireturn, 1)]]
def xt33 : xTb := [[(.iconst 0, 1), (.istore_n 1, 1), (.iconst 0, 1), (.istore_n 2, 1), (.iload_n 2, 1), (.aload_n 0, 1), (.getfield 42, 3), (.athrow, 0)], [(.athrow, 0), (.if_icmp .ge 39, 3), (.athrow, 0), (.athrow, 0), (.iload_n 2, 1), (.iconst 1, 1), (.iadd, 1), (.istore_n 3, 1)], [(.iload_n 3, 1), (.aload_n 0, 1), (.getfield 42, 3), (.athrow, 0), (.athrow, 0), (.if_icmp .ge 21, 3), (.athrow, 0), (.athrow, 0)], [(.aload_n 0, 1), (.iload_n 2, 1), (.iload_n 3, 1), (.invokevirtual 51, 3), (.athrow, 0), (.athrow, 0), (.ifCond .eq 6, 3), (.athrow, 0)], [(.athrow, 0), (.iinc 1 1, 3), (.athrow, 0), (.athrow, 0), (.iinc 3 1, 3), (.athrow, 0), (.athrow, 0), (.goto (-23), 3)], [(.athrow, 0), (.athrow, 0), (.iinc 2 1, 3), (.athrow, 0), (.athrow, 0), (.goto (-41), 3), (.athrow, 0), (.athrow, 0)], [(.iload_n 1, 1), (.ireturn, 1)]]
def xt34 : xTb := [[(.iconst 0, 1), (.istore_n 1, 1), (.iconst 0, 1), (.istore_n 2, 1), (.iload_n 2, 1), (.aload_n 0, 1), (.getfield 42, 3), (.athrow, 0)], [(.athrow, 0), (.if_icmp .ge 38, 3), (.athrow, 0), (.athrow, 0), (.iload_n 2, 1), (.iconst 1, 1), (.iadd, 1), (.istore_n 3, 1)], [(.iload_n 3, 1), (.aload_n 0, 1), (.getfield 42, 3), (.athrow, 0), (.athrow, 0), (.if_icmp .ge 20, 3), (.athrow, 0), (.athrow, 0)], [(.iload_n 1, 1), (.aload_n 0, 1), (.getfield 27, 3), (.athrow, 0), (.athrow, 0), (.iload_n 2, 1), (.aaload, 1), (.iload_n 3, 1)], [(.iaload, 1), (.iadd, 1), (.istore_n 1, 1), (.iinc 3 1, 3), (.athrow, 0), (.athrow, 0), (.goto (-22), 3), (.athrow, 0)], [(.athrow, 0), (.iinc 2 1, 3), (.athrow, 0), (.athrow, 0), (.goto (-40), 3), (.athrow, 0), (.athrow, 0), (.iload_n 1, 1)], [(.ireturn, 1)]]
def xt35 : xTb := [[(.iload_n 1, 1), (.iconst (-1), 1), (.if_icmp .ne 5, 3), (.athrow, 0), (.athrow, 0), (.iconst 0, 1), (.ireturn, 1), (.iconst 0, 1)], [(.istore_n 2, 1), (.iconst 0, 1), (.istore_n 3, 1), (.iload_n 3, 1), (.aload_n 0, 1), (.getfield 42, 3), (.athrow, 0), (.athrow, 0)], [(.if_icmp .ge 22, 3), (.athrow, 0), (.athrow, 0), (.aload_n 0, 1), (.getfield 22, 3), (.athrow, 0), (.athrow, 0), (.iload_n 3, 1)], [(.iaload, 1), (.iload_n 1, 1), (.if_icmp .ne 6, 3), (.athrow, 0), (.athrow, 0), (.iinc 2 1, 3), (.athrow, 0), (.athrow, 0)], [(.iinc 3 1, 3), (.athrow, 0), (.athrow, 0), (.goto (-24), 3), (.athrow, 0), (.athrow, 0), (.iload_n 2, 1), (.ireturn, 1)]]
def xt36 : xTb := [[(.iconst 0, 1), (.istore_n 1, 1), (.iconst 0, 1), (.istore_n 2, 1), (.iload_n 2, 1), (.iconst 4, 1), (.if_icmp .ge 17, 3), (.athrow, 0)], [(.athrow, 0), (.iload_n 1, 1), (.aload_n 0, 1), (.iload_n 2, 1), (.invokevirtual 55, 3), (.athrow, 0), (.athrow, 0), (.iadd, 1)], [(.istore_n 1, 1), (.iinc 2 1, 3), (.athrow, 0), (.athrow, 0), (.goto (-16), 3), (.athrow, 0), (.athrow, 0), (.iload_n 1, 1)], [(.ireturn, 1)]]
def xt37 : xTb := [[(.aload_n 0, 1), (.iload_n 1, 1), (.iload_n 2, 1), (.invokevirtual 59, 3), (.athrow, 0), (.athrow, 0), (.aload_n 0, 1), (.getfield 35, 3)], [(.athrow, 0), (.athrow, 0), (.iconst 0, 1), (.aload_n 0, 1), (.getfield 32, 3), (.athrow, 0), (.athrow, 0), (.invokevirtual 63, 3)], [(.athrow, 0), (.athrow, 0), (.istore_n 3, 1), (.aload_n 0, 1), (.getfield 15, 3), (.athrow, 0), (.athrow, 0), (.iload_n 1, 1)], [(.iaload, 1), (.tableswitch 74 1 5 #[35, 39, 43, 54, 72], 35), (.athrow, 0), (.athrow, 0), (.athrow, 0), (.athrow, 0), (.athrow, 0), (.athrow, 0)], [(.athrow, 0), (.athrow, 0), (.athrow, 0), (.athrow, 0), (.athrow, 0), (.athrow, 0), (.athrow, 0), (.athrow, 0)], [(.athrow, 0), (.athrow, 0), (.athrow, 0), (.athrow, 0), (.athrow, 0), (.athrow, 0), (.athrow, 0), (.athrow, 0)], [(.athrow, 0), (.athrow, 0), (.athrow, 0), (.athrow, 0), (.athrow, 0), (.athrow, 0), (.athrow, 0), (.athrow, 0)], [(.athrow, 0), (.athrow, 0), (.athrow, 0), (.athrow, 0), (.iconst 2, 1), (.iload_n 3, 1), (.imul, 1), (.ireturn, 1)], [(.iload_n 3, 1), (.iconst 2, 1), (.idiv, 1), (.ireturn, 1), (.iconst 2, 1), (.iload_n 3, 1), (.imul, 1), (.aload_n 0, 1)], [(.getfield 19, 3), (.athrow, 0), (.athrow, 0), (.iload_n 1, 1), (.iaload, 1), (.iadd, 1), (.ireturn, 1), (.aload_n 0, 1)], [(.getfield 32, 3), (.athrow, 0), (.athrow, 0), (.iconst 5, 1), (.iaload, 1), (.iconst 2, 1), (.if_icmp .le 7, 3), (.athrow, 0)], [(.athrow, 0), (.iconst 0, 1), (.goto 6, 3), (.athrow, 0), (.athrow, 0), (.iload_n 3, 1), (.iconst 2, 1), (.idiv, 1)], [(.ireturn, 1), (.iconst 3, 1), (.ireturn, 1), (.iload_n 3, 1), (.ireturn, 1)]]
def xt38 : xTb := [[(.aload_n 0, 1), (.iload_n 1, 1), (.iload_n 2, 1), (.invokevirtual 59, 3), (.athrow, 0), (.athrow, 0), (.aload_n 0, 1), (.getfield 35, 3)], [(.athrow, 0), (.athrow, 0), (.iconst 1, 1), (.aload_n 0, 1), (.getfield 32, 3), (.athrow, 0), (.athrow, 0), (.invokevirtual 63, 3)], [(.athrow, 0), (.athrow, 0), (.istore_n 3, 1), (.aload_n 0, 1), (.getfield 15, 3), (.athrow, 0), (.athrow, 0), (.iload_n 1, 1)], [(.iaload, 1), (.tableswitch 62 1 4 #[31, 35, 39, 45], 31), (.athrow, 0), (.athrow, 0), (.athrow, 0), (.athrow, 0), (.athrow, 0), (.athrow, 0)], [(.athrow, 0), (.athrow, 0), (.athrow, 0), (.athrow, 0), (.athrow, 0), (.athrow, 0), (.athrow, 0), (.athrow, 0)], [(.athrow, 0), (.athrow, 0), (.athrow, 0), (.athrow, 0), (.athrow, 0), (.athrow, 0), (.athrow, 0), (.athrow, 0)], [(.athrow, 0), (.athrow, 0), (.athrow, 0), (.athrow, 0), (.athrow, 0), (.athrow, 0), (.athrow, 0), (.athrow, 0)], [(.iload_n 3, 1), (.iconst 1, 1), (.iadd, 1), (.ireturn, 1), (.iload_n 3, 1), (.iconst 2, 1), (.idiv, 1), (.ireturn, 1)], [(.iconst 2, 1), (.iload_n 3, 1), (.iconst 1, 1), (.iadd, 1), (.imul, 1), (.ireturn, 1), (.aload_n 0, 1), (.getfield 39, 3)], [(.athrow, 0), (.athrow, 0), (.iconst 2, 1), (.irem, 1), (.ifCond .ne 7, 3), (.athrow, 0), (.athrow, 0), (.iconst 0, 1)], [(.goto 6, 3), (.athrow, 0), (.athrow, 0), (.iload_n 3, 1), (.iconst 2, 1), (.idiv, 1), (.ireturn, 1), (.iload_n 3, 1)], [(.ireturn, 1)]]
def xt39 : xTb := [[(.aload_n 0, 1), (.iload_n 1, 1), (.iload_n 1, 1), (.invokevirtual 59, 3), (.athrow, 0), (.athrow, 0), (.aload_n 0, 1), (.getfield 32, 3)], [(.athrow, 0), (.athrow, 0), (.iconst 2, 1), (.iconst 0, 1), (.iastore, 1), (.aload_n 0, 1), (.getfield 35, 3), (.athrow, 0)], [(.athrow, 0), (.iconst 2, 1), (.aload_n 0, 1), (.getfield 32, 3), (.athrow, 0), (.athrow, 0), (.invokevirtual 63, 3), (.athrow, 0)], [(.athrow, 0), (.istore_n 2, 1), (.aload_n 0, 1), (.getfield 15, 3), (.athrow, 0), (.athrow, 0), (.iload_n 1, 1), (.iaload, 1)], [(.tableswitch 55 1 5 #[36, 40, 42, 40, 48], 36), (.athrow, 0), (.athrow, 0), (.athrow, 0), (.athrow, 0), (.athrow, 0), (.athrow, 0), (.athrow, 0)], [(.athrow, 0), (.athrow, 0), (.athrow, 0), (.athrow, 0), (.athrow, 0), (.athrow, 0), (.athrow, 0), (.athrow, 0)], [(.athrow, 0), (.athrow, 0), (.athrow, 0), (.athrow, 0), (.athrow, 0), (.athrow, 0), (.athrow, 0), (.athrow, 0)], [(.athrow, 0), (.athrow, 0), (.athrow, 0), (.athrow, 0), (.athrow, 0), (.athrow, 0), (.athrow, 0), (.athrow, 0)], [(.athrow, 0), (.athrow, 0), (.athrow, 0), (.athrow, 0), (.iload_n 2, 1), (.iconst 5, 1), (.iadd, 1), (.ireturn, 1)], [(.iconst 0, 1), (.ireturn, 1), (.iconst 2, 1), (.iload_n 2, 1), (.iconst 5, 1), (.iadd, 1), (.imul, 1), (.ireturn, 1)], [(.aload_n 0, 1), (.getfield 19, 3), (.athrow, 0), (.athrow, 0), (.iload_n 1, 1), (.iaload, 1), (.ireturn, 1), (.iload_n 2, 1)], [(.ireturn, 1)]]
def xt40 : xTb := [[(.aload_n 0, 1), (.getfield 32, 3), (.athrow, 0), (.athrow, 0), (.iconst 0, 1), (.aload_n 0, 1), (.getfield 27, 3), (.athrow, 0)], [(.athrow, 0), (.iload_n 1, 1), (.aaload, 1), (.iload_n 2, 1), (.iaload, 1), (.iastore, 1), (.aload_n 0, 1), (.getfield 32, 3)], [(.athrow, 0), (.athrow, 0), (.iconst 1, 1), (.aload_n 0, 1), (.getfield 19, 3), (.athrow, 0), (.athrow, 0), (.iload_n 1, 1)], [(.iaload, 1), (.iastore, 1), (.aload_n 0, 1), (.getfield 32, 3), (.athrow, 0), (.athrow, 0), (.iconst 2, 1), (.aload_n 0, 1)], [(.getfield 19, 3), (.athrow, 0), (.athrow, 0), (.iload_n 2, 1), (.iaload, 1), (.iastore, 1), (.aload_n 0, 1), (.getfield 32, 3)], [(.athrow, 0), (.athrow, 0), (.iconst 3, 1), (.aload_n 0, 1), (.aload_n 0, 1), (.getfield 22, 3), (.athrow, 0), (.athrow, 0)], [(.iload_n 1, 1), (.iaload, 1), (.invokevirtual 55, 3), (.athrow, 0), (.athrow, 0), (.iastore, 1), (.aload_n 0, 1), (.getfield 32, 3)], [(.athrow, 0), (.athrow, 0), (.iconst 4, 1), (.aload_n 0, 1), (.getfield 39, 3), (.athrow, 0), (.athrow, 0), (.iastore, 1)], [(.aload_n 0, 1), (.getfield 32, 3), (.athrow, 0), (.athrow, 0), (.iconst 5, 1), (.iload_n 1, 1), (.iload_n 2, 1), (.isub, 1)], [(.invokestatic 67, 3), (.athrow, 0), (.athrow, 0), (.iastore, 1), (.return_, 1)]]
def xt41 : xTb := [[(.iconst 0, 1), (.istore_n 1, 1), (.iload_n 1, 1), (.aload_n 0, 1), (.getfield 42, 3), (.athrow, 0), (.athrow, 0), (.if_icmp .ge 90, 3)], [(.athrow, 0), (.athrow, 0), (.iload_n 1, 1), (.iconst 1, 1), (.iadd, 1), (.istore_n 2, 1), (.iload_n 2, 1), (.aload_n 0, 1)], [(.getfield 42, 3), (.athrow, 0), (.athrow, 0), (.if_icmp .ge 72, 3), (.athrow, 0), (.athrow, 0), (.aload_n 0, 1), (.getfield 22, 3)], [(.athrow, 0), (.athrow, 0), (.iload_n 1, 1), (.iaload, 1), (.iconst (-1), 1), (.if_icmp .eq 56, 3), (.athrow, 0), (.athrow, 0)], [(.aload_n 0, 1), (.getfield 22, 3), (.athrow, 0), (.athrow, 0), (.iload_n 1, 1), (.iaload, 1), (.aload_n 0, 1), (.getfield 22, 3)], [(.athrow, 0), (.athrow, 0), (.iload_n 2, 1), (.iaload, 1), (.if_icmp .eq 6, 3), (.athrow, 0), (.athrow, 0), (.goto 38, 3)], [(.athrow, 0), (.athrow, 0), (.aload_n 0, 1), (.iload_n 1, 1), (.iload_n 2, 1), (.invokevirtual 72, 3), (.athrow, 0), (.athrow, 0)], [(.aload_n 0, 1), (.iload_n 2, 1), (.iload_n 1, 1), (.invokevirtual 72, 3), (.athrow, 0), (.athrow, 0), (.iadd, 1), (.istore_n 3, 1)], [(.aload_n 0, 1), (.iload_n 1, 1), (.iload_n 2, 1), (.bipush 99, 2), (.athrow, 0), (.aload_n 0, 1), (.getfield 27, 3), (.athrow, 0)], [(.athrow, 0), (.iload_n 1, 1), (.aaload, 1), (.iload_n 2, 1), (.iaload, 1), (.iload_n 3, 1), (.iadd, 1), (.invokestatic 76, 3)], [(.athrow, 0), (.athrow, 0), (.invokevirtual 79, 3), (.athrow, 0), (.athrow, 0), (.iinc 2 1, 3), (.athrow, 0), (.athrow, 0)], [(.goto (-74), 3), (.athrow, 0), (.athrow, 0), (.iinc 1 1, 3), (.athrow, 0), (.athrow, 0), (.goto (-92), 3), (.athrow, 0)], [(.athrow, 0), (.return_, 1)]]
def xt42 : xTb := [[(.iconst 0, 1), (.istore_n 1, 1), (.iload_n 1, 1), (.aload_n 0, 1), (.getfield 42, 3), (.athrow, 0), (.athrow, 0), (.if_icmp .ge 61, 3)], [(.athrow, 0), (.athrow, 0), (.iload_n 1, 1), (.iconst 1, 1), (.iadd, 1), (.istore_n 2, 1), (.iload_n 2, 1), (.aload_n 0, 1)], [(.getfield 42, 3), (.athrow, 0), (.athrow, 0), (.if_icmp .ge 43, 3), (.athrow, 0), (.athrow, 0), (.aload_n 0, 1), (.iload_n 1, 1)], [(.iload_n 2, 1), (.invokevirtual 83, 3), (.athrow, 0), (.athrow, 0), (.aload_n 0, 1), (.iload_n 2, 1), (.iload_n 1, 1), (.invokevirtual 83, 3)], [(.athrow, 0), (.athrow, 0), (.iadd, 1), (.istore_n 3, 1), (.aload_n 0, 1), (.iload_n 1, 1), (.iload_n 2, 1), (.iconst 0, 1)], [(.aload_n 0, 1), (.getfield 27, 3), (.athrow, 0), (.athrow, 0), (.iload_n 1, 1), (.aaload, 1), (.iload_n 2, 1), (.iaload, 1)], [(.iload_n 3, 1), (.isub, 1), (.invokestatic 86, 3), (.athrow, 0), (.athrow, 0), (.invokevirtual 79, 3), (.athrow, 0), (.athrow, 0)], [(.iinc 2 1, 3), (.athrow, 0), (.athrow, 0), (.goto (-45), 3), (.athrow, 0), (.athrow, 0), (.iinc 1 1, 3), (.athrow, 0)], [(.athrow, 0), (.goto (-63), 3), (.athrow, 0), (.athrow, 0), (.aload_n 0, 1), (.dup, 1), (.getfield 39, 3), (.athrow, 0)], [(.athrow, 0), (.iconst 1, 1), (.iadd, 1), (.putfield 39, 3), (.athrow, 0), (.athrow, 0), (.return_, 1)]]
def xt43 : xTb := [[(.iconst 0, 1), (.istore_n 2, 1), (.iload_n 2, 1), (.iload_n 1, 1), (.if_icmp .ge 17, 3), (.athrow, 0), (.athrow, 0), (.aload_n 0, 1)], [(.invokevirtual 89, 3), (.athrow, 0), (.athrow, 0), (.aload_n 0, 1), (.invokevirtual 92, 3), (.athrow, 0), (.athrow, 0), (.iinc 2 1, 3)], [(.athrow, 0), (.athrow, 0), (.goto (-16), 3), (.athrow, 0), (.athrow, 0), (.aload_n 0, 1), (.invokevirtual 95, 3), (.athrow, 0)], [(.athrow, 0), (.ireturn, 1)]]
def xt44 : xTb := [[(.iconst (-1), 1), (.istore_n 1, 1), (.iconst 0, 1), (.istore_n 2, 1), (.iconst 0, 1), (.istore_n 3, 1), (.iload_n 3, 1), (.iconst 4, 1)], [(.if_icmp .ge 43, 3), (.athrow, 0), (.athrow, 0), (.aload_n 0, 1), (.iload_n 3, 1), (.invokevirtual 55, 3), (.athrow, 0), (.athrow, 0)], [(.ifCond .ne 6, 3), (.athrow, 0), (.athrow, 0), (.goto 26, 3), (.athrow, 0), (.athrow, 0), (.aload_n 0, 1), (.iload_n 3, 1)], [(.invokevirtual 99, 3), (.athrow, 0), (.athrow, 0), (.istore 4, 2), (.athrow, 0), (.iload_n 1, 1), (.iconst (-1), 1), (.if_icmp .eq 9, 3)], [(.athrow, 0), (.athrow, 0), (.iload 4, 2), (.athrow, 0), (.iload_n 2, 1), (.if_icmp .ge 8, 3), (.athrow, 0), (.athrow, 0)], [(.iload_n 3, 1), (.istore_n 1, 1), (.iload 4, 2), (.athrow, 0), (.istore_n 2, 1), (.iinc 3 1, 3), (.athrow, 0), (.athrow, 0)], [(.goto (-42), 3), (.athrow, 0), (.athrow, 0), (.iload_n 1, 1), (.ireturn, 1)]]
def xt45 : xTb := [[(.iconst 0, 1), (.istore_n 2, 1), (.iconst 0, 1), (.istore_n 3, 1), (.iload_n 3, 1), (.aload_n 0, 1), (.getfield 42, 3), (.athrow, 0)], [(.athrow, 0), (.if_icmp .ge 27, 3), (.athrow, 0), (.athrow, 0), (.aload_n 0, 1), (.getfield 22, 3), (.athrow, 0), (.athrow, 0)], [(.iload_n 3, 1), (.iaload, 1), (.iload_n 1, 1), (.if_icmp .ne 11, 3), (.athrow, 0), (.athrow, 0), (.iload_n 2, 1), (.aload_n 0, 1)], [(.iload_n 3, 1), (.invokevirtual 102, 3), (.athrow, 0), (.athrow, 0), (.iadd, 1), (.istore_n 2, 1), (.iinc 3 1, 3), (.athrow, 0)], [(.athrow, 0), (.goto (-29), 3), (.athrow, 0), (.athrow, 0), (.iload_n 2, 1), (.ireturn, 1)]]
def xt46 : xTb := [[(.aload_n 0, 1), (.invokespecial 3, 3), (.athrow, 0), (.athrow, 0), (.aload_n 0, 1), (.sipush 161, 3), (.athrow, 0), (.athrow, 0)], [(.newarray .int, 2), (.athrow, 0), (.putfield 11, 3), (.athrow, 0), (.athrow, 0), (.aload_n 0, 1), (.sipush 161, 3), (.athrow, 0)], [(.athrow, 0), (.newarray .int, 2), (.athrow, 0), (.putfield 15, 3), (.athrow, 0), (.athrow, 0), (.aload_n 0, 1), (.sipush 161, 3)], [(.athrow, 0), (.athrow, 0), (.newarray .int, 2), (.athrow, 0), (.putfield 18, 3), (.athrow, 0), (.athrow, 0), (.aload_n 0, 1)], [(.sipush 160, 3), (.athrow, 0), (.athrow, 0), (.newarray .int, 2), (.athrow, 0), (.putfield 21, 3), (.athrow, 0), (.athrow, 0)], [(.return_, 1)]]
def xt47 : xTb := [[(.aload_n 0, 1), (.getfield 24, 3), (.athrow, 0), (.athrow, 0), (.sipush 160, 3), (.athrow, 0), (.athrow, 0), (.if_icmp .lt 5, 3)], [(.athrow, 0), (.athrow, 0), (.iconst 0, 1), (.ireturn, 1), (.aload_n 0, 1), (.getfield 21, 3), (.athrow, 0), (.athrow, 0)], [(.aload_n 0, 1), (.getfield 24, 3), (.athrow, 0), (.athrow, 0), (.iload_n 1, 1), (.iastore, 1), (.aload_n 0, 1), (.dup, 1)], [(.getfield 24, 3), (.athrow, 0), (.athrow, 0), (.iconst 1, 1), (.iadd, 1), (.putfield 24, 3), (.athrow, 0), (.athrow, 0)], [(.iconst 1, 1), (.ireturn, 1)]]
def xt48 : xTb := [[(.aload_n 0, 1), (.iconst 0, 1), (.putfield 24, 3), (.athrow, 0), (.athrow, 0), (.return_, 1)]]
def xt49 : xTb := [[(.aload_n 0, 1), (.iconst 0, 1), (.putfield 28, 3), (.athrow, 0), (.athrow, 0), (.iconst 0, 1), (.istore_n 1, 1), (.iload_n 1, 1)], [(.sipush 160, 3), (.athrow, 0), (.athrow, 0), (.if_icmp .gt 150, 3), (.athrow, 0), (.athrow, 0), (.aload_n 0, 1), (.getfield 28, 3)], [(.athrow, 0), (.athrow, 0), (.aload_n 0, 1), (.getfield 24, 3), (.athrow, 0), (.athrow, 0), (.if_icmp .ge 31, 3), (.athrow, 0)], [(.athrow, 0), (.aload_n 0, 1), (.getfield 21, 3), (.athrow, 0), (.athrow, 0), (.aload_n 0, 1), (.getfield 28, 3), (.athrow, 0)], [(.athrow, 0), (.iaload, 1), (.invokestatic 31, 3), (.athrow, 0), (.athrow, 0), (.ifCond .eq 16, 3), (.athrow, 0), (.athrow, 0)], [(.aload_n 0, 1), (.dup, 1), (.getfield 28, 3), (.athrow, 0), (.athrow, 0), (.iconst 1, 1), (.iadd, 1), (.putfield 28, 3)], [(.athrow, 0), (.athrow, 0), (.goto (-36), 3), (.athrow, 0), (.athrow, 0), (.aload_n 0, 1), (.getfield 15, 3), (.athrow, 0)], [(.athrow, 0), (.iload_n 1, 1), (.aload_n 0, 1), (.getfield 28, 3), (.athrow, 0), (.athrow, 0), (.iastore, 1), (.aload_n 0, 1)], [(.getfield 28, 3), (.athrow, 0), (.athrow, 0), (.aload_n 0, 1), (.getfield 24, 3), (.athrow, 0), (.athrow, 0), (.if_icmp .lt 13, 3)], [(.athrow, 0), (.athrow, 0), (.aload_n 0, 1), (.getfield 11, 3), (.athrow, 0), (.athrow, 0), (.iload_n 1, 1), (.sipush 300, 3)], [(.athrow, 0), (.athrow, 0), (.iastore, 1), (.return_, 1), (.aload_n 0, 1), (.getfield 21, 3), (.athrow, 0), (.athrow, 0)], [(.aload_n 0, 1), (.getfield 28, 3), (.athrow, 0), (.athrow, 0), (.iaload, 1), (.invokestatic 35, 3), (.athrow, 0), (.athrow, 0)], [(.ifCond .eq 11, 3), (.athrow, 0), (.athrow, 0), (.aload_n 0, 1), (.iload_n 1, 1), (.invokevirtual 38, 3), (.athrow, 0), (.athrow, 0)], [(.goto 51, 3), (.athrow, 0), (.athrow, 0), (.aload_n 0, 1), (.getfield 21, 3), (.athrow, 0), (.athrow, 0), (.aload_n 0, 1)], [(.getfield 28, 3), (.athrow, 0), (.athrow, 0), (.iaload, 1), (.invokestatic 42, 3), (.athrow, 0), (.athrow, 0), (.ifCond .eq 11, 3)], [(.athrow, 0), (.athrow, 0), (.aload_n 0, 1), (.iload_n 1, 1), (.invokevirtual 45, 3), (.athrow, 0), (.athrow, 0), (.goto 28, 3)], [(.athrow, 0), (.athrow, 0), (.aload_n 0, 1), (.getfield 11, 3), (.athrow, 0), (.athrow, 0), (.iload_n 1, 1), (.aload_n 0, 1)], [(.getfield 21, 3), (.athrow, 0), (.athrow, 0), (.aload_n 0, 1), (.getfield 28, 3), (.athrow, 0), (.athrow, 0), (.iaload, 1)], [(.iastore, 1), (.aload_n 0, 1), (.dup, 1), (.getfield 28, 3), (.athrow, 0), (.athrow, 0), (.iconst 1, 1), (.iadd, 1)], [(.putfield 28, 3), (.athrow, 0), (.athrow, 0), (.iinc 1 1, 3), (.athrow, 0), (.athrow, 0), (.goto (-151), 3), (.athrow, 0)], [(.athrow, 0), (.return_, 1)]]
def xt50 : xTb := [[(.iconst 0, 1), (.istore_n 2, 1), (.aload_n 0, 1), (.getfield 28, 3), (.athrow, 0), (.athrow, 0), (.aload_n 0, 1), (.getfield 24, 3)], [(.athrow, 0), (.athrow, 0), (.if_icmp .ge 49, 3), (.athrow, 0), (.athrow, 0), (.aload_n 0, 1), (.getfield 21, 3), (.athrow, 0)], [(.athrow, 0), (.aload_n 0, 1), (.getfield 28, 3), (.athrow, 0), (.athrow, 0), (.iaload, 1), (.invokestatic 35, 3), (.athrow, 0)], [(.athrow, 0), (.ifCond .eq 34, 3), (.athrow, 0), (.athrow, 0), (.iload_n 2, 1), (.bipush 10, 2), (.athrow, 0), (.imul, 1)], [(.aload_n 0, 1), (.getfield 21, 3), (.athrow, 0), (.athrow, 0), (.aload_n 0, 1), (.getfield 28, 3), (.athrow, 0), (.athrow, 0)], [(.iaload, 1), (.iadd, 1), (.bipush 48, 2), (.athrow, 0), (.isub, 1), (.istore_n 2, 1), (.aload_n 0, 1), (.dup, 1)], [(.getfield 28, 3), (.athrow, 0), (.athrow, 0), (.iconst 1, 1), (.iadd, 1), (.putfield 28, 3), (.athrow, 0), (.athrow, 0)], [(.goto (-54), 3), (.athrow, 0), (.athrow, 0), (.aload_n 0, 1), (.getfield 11, 3), (.athrow, 0), (.athrow, 0), (.iload_n 1, 1)], [(.aload_n 0, 1), (.getfield 28, 3), (.athrow, 0), (.athrow, 0), (.aload_n 0, 1), (.getfield 15, 3), (.athrow, 0), (.athrow, 0)], [(.iload_n 1, 1), (.iaload, 1), (.isub, 1), (.iconst 4, 1), (.if_icmp .le 9, 3), (.athrow, 0), (.athrow, 0), (.sipush 301, 3)], [(.athrow, 0), (.athrow, 0), (.goto 6, 3), (.athrow, 0), (.athrow, 0), (.sipush 302, 3), (.athrow, 0), (.athrow, 0)], [(.iastore, 1), (.aload_n 0, 1), (.getfield 18, 3), (.athrow, 0), (.athrow, 0), (.iload_n 1, 1), (.iload_n 2, 1), (.iastore, 1)], [(.return_, 1)]]
def xt51 : xTb := [[(.aload_n 0, 1), (.getfield 28, 3), (.athrow, 0), (.athrow, 0), (.aload_n 0, 1), (.getfield 24, 3), (.athrow, 0), (.athrow, 0)], [(.if_icmp .ge 31, 3), (.athrow, 0), (.athrow, 0), (.aload_n 0, 1), (.getfield 21, 3), (.athrow, 0), (.athrow, 0), (.aload_n 0, 1)], [(.getfield 28, 3), (.athrow, 0), (.athrow, 0), (.iaload, 1), (.invokestatic 42, 3), (.athrow, 0), (.athrow, 0), (.ifCond .eq 16, 3)], [(.athrow, 0), (.athrow, 0), (.aload_n 0, 1), (.dup, 1), (.getfield 28, 3), (.athrow, 0), (.athrow, 0), (.iconst 1, 1)], [(.iadd, 1), (.putfield 28, 3), (.athrow, 0), (.athrow, 0), (.goto (-36), 3), (.athrow, 0), (.athrow, 0), (.aload_n 0, 1)], [(.aload_n 0, 1), (.getfield 15, 3), (.athrow, 0), (.athrow, 0), (.iload_n 1, 1), (.iaload, 1), (.invokevirtual 48, 3), (.athrow, 0)], [(.athrow, 0), (.istore_n 2, 1), (.iload_n 2, 1), (.iconst (-1), 1), (.if_icmp .ne 22, 3), (.athrow, 0), (.athrow, 0), (.aload_n 0, 1)], [(.getfield 11, 3), (.athrow, 0), (.athrow, 0), (.iload_n 1, 1), (.aload_n 0, 1), (.aload_n 0, 1), (.getfield 15, 3), (.athrow, 0)], [(.athrow, 0), (.iload_n 1, 1), (.iaload, 1), (.invokevirtual 52, 3), (.athrow, 0), (.athrow, 0), (.iastore, 1), (.goto 21, 3)], [(.athrow, 0), (.athrow, 0), (.aload_n 0, 1), (.getfield 11, 3), (.athrow, 0), (.athrow, 0), (.iload_n 1, 1), (.sipush 303, 3)], [(.athrow, 0), (.athrow, 0), (.iastore, 1), (.aload_n 0, 1), (.getfield 18, 3), (.athrow, 0), (.athrow, 0), (.iload_n 1, 1)], [(.iconst (-1), 1), (.iload_n 2, 1), (.isub, 1), (.iastore, 1), (.return_, 1)]]
def xt52 : xTb := [[(.aload_n 0, 1), (.ldc 57, 2), (.athrow, 0), (.iload_n 1, 1), (.invokevirtual 59, 3), (.athrow, 0), (.athrow, 0), (.ifCond .eq 5, 3)], [(.athrow, 0), (.athrow, 0), (.iconst 0, 1), (.ireturn, 1), (.aload_n 0, 1), (.ldc 63, 2), (.athrow, 0), (.iload_n 1, 1)], [(.invokevirtual 59, 3), (.athrow, 0), (.athrow, 0), (.ifCond .eq 5, 3), (.athrow, 0), (.athrow, 0), (.iconst 1, 1), (.ireturn, 1)], [(.aload_n 0, 1), (.ldc 65, 2), (.athrow, 0), (.iload_n 1, 1), (.invokevirtual 59, 3), (.athrow, 0), (.athrow, 0), (.ifCond .eq 5, 3)], [(.athrow, 0), (.athrow, 0), (.iconst 2, 1), (.ireturn, 1), (.aload_n 0, 1), (.ldc 67, 2), (.athrow, 0), (.iload_n 1, 1)], [(.invokevirtual 59, 3), (.athrow, 0), (.athrow, 0), (.ifCond .eq 5, 3), (.athrow, 0), (.athrow, 0), (.iconst 3, 1), (.ireturn, 1)], [(.aload_n 0, 1), (.ldc 69, 2), (.athrow, 0), (.iload_n 1, 1), (.invokevirtual 59, 3), (.athrow, 0), (.athrow, 0), (.ifCond .eq 5, 3)], [(.athrow, 0), (.athrow, 0), (.iconst 4, 1), (.ireturn, 1), (.aload_n 0, 1), (.ldc 71, 2), (.athrow, 0), (.iload_n 1, 1)], [(.invokevirtual 59, 3), (.athrow, 0), (.athrow, 0), (.ifCond .eq 7, 3), (.athrow, 0), (.athrow, 0), (.iconst 5, 1), (.goto 4, 3)], [(.athrow, 0), (.athrow, 0), (.iconst (-1), 1), (.ireturn, 1)]]
def xt53 : xTb := [[(.aload_n 0, 1), (.ldc 73, 2), (.athrow, 0), (.iload_n 1, 1), (.invokevirtual 59, 3), (.athrow, 0), (.athrow, 0), (.ifCond .eq 7, 3)], [(.athrow, 0), (.athrow, 0), (.sipush 304, 3), (.athrow, 0), (.athrow, 0), (.ireturn, 1), (.aload_n 0, 1), (.ldc 75, 2)], [(.athrow, 0), (.iload_n 1, 1), (.invokevirtual 59, 3), (.athrow, 0), (.athrow, 0), (.ifCond .eq 7, 3), (.athrow, 0), (.athrow, 0)], [(.sipush 305, 3), (.athrow, 0), (.athrow, 0), (.ireturn, 1), (.aload_n 0, 1), (.ldc 77, 2), (.athrow, 0), (.iload_n 1, 1)], [(.invokevirtual 59, 3), (.athrow, 0), (.athrow, 0), (.ifCond .eq 7, 3), (.athrow, 0), (.athrow, 0), (.sipush 306, 3), (.athrow, 0)], [(.athrow, 0), (.ireturn, 1), (.aload_n 0, 1), (.ldc 79, 2), (.athrow, 0), (.iload_n 1, 1), (.invokevirtual 59, 3), (.athrow, 0)], [(.athrow, 0), (.ifCond .eq 7, 3), (.athrow, 0), (.athrow, 0), (.sipush 307, 3), (.athrow, 0), (.athrow, 0), (.ireturn, 1)], [(.aload_n 0, 1), (.ldc 81, 2), (.athrow, 0), (.iload_n 1, 1), (.invokevirtual 59, 3), (.athrow, 0), (.athrow, 0), (.ifCond .eq 7, 3)], [(.athrow, 0), (.athrow, 0), (.sipush 308, 3), (.athrow, 0), (.athrow, 0), (.ireturn, 1), (.aload_n 0, 1), (.ldc 83, 2)], [(.athrow, 0), (.iload_n 1, 1), (.invokevirtual 59, 3), (.athrow, 0), (.athrow, 0), (.ifCond .eq 9, 3), (.athrow, 0), (.athrow, 0)], [(.sipush 309, 3), (.athrow, 0), (.athrow, 0), (.goto 6, 3), (.athrow, 0), (.athrow, 0), (.sipush 301, 3), (.athrow, 0)], [(.athrow, 0), (.ireturn, 1)]]
def xt54 : xTb := [[(.aload_n 0, 1), (.getfield 28, 3), (.athrow, 0), (.athrow, 0), (.iload_n 2, 1), (.isub, 1), (.aload_n 1, 1), (.invokevirtual 85, 3)], [(.athrow, 0), (.athrow, 0), (.if_icmp .eq 5, 3), (.athrow, 0), (.athrow, 0), (.iconst 0, 1), (.ireturn, 1), (.iconst 0, 1)], [(.istore_n 3, 1), (.iload_n 3, 1), (.aload_n 1, 1), (.invokevirtual 85, 3), (.athrow, 0), (.athrow, 0), (.if_icmp .ge 27, 3), (.athrow, 0)], [(.athrow, 0), (.aload_n 0, 1), (.getfield 21, 3), (.athrow, 0), (.athrow, 0), (.iload_n 2, 1), (.iload_n 3, 1), (.iadd, 1)], [(.iaload, 1), (.aload_n 1, 1), (.iload_n 3, 1), (.invokevirtual 91, 3), (.athrow, 0), (.athrow, 0), (.if_icmp .eq 5, 3), (.athrow, 0)], [(.athrow, 0), (.iconst 0, 1), (.ireturn, 1), (.iinc 3 1, 3), (.athrow, 0), (.athrow, 0), (.goto (-29), 3), (.athrow, 0)], [(.athrow, 0), (.iconst 1, 1), (.ireturn, 1)]]
def xt55 : xTb := [[(.iload_n 0, 1), (.bipush 32, 2), (.athrow, 0), (.if_icmp .eq 9, 3), (.athrow, 0), (.athrow, 0), (.iload_n 0, 1), (.bipush 10, 2)], [(.athrow, 0), (.if_icmp .ne 7, 3), (.athrow, 0), (.athrow, 0), (.iconst 1, 1), (.goto 4, 3), (.athrow, 0), (.athrow, 0)], [(.iconst 0, 1), (.ireturn, 1)]]
def xt56 : xTb := [[(.iload_n 0, 1), (.bipush 48, 2), (.athrow, 0), (.if_icmp .lt 13, 3), (.athrow, 0), (.athrow, 0), (.iload_n 0, 1), (.bipush 57, 2)], [(.athrow, 0), (.if_icmp .gt 7, 3), (.athrow, 0), (.athrow, 0), (.iconst 1, 1), (.goto 4, 3), (.athrow, 0), (.athrow, 0)], [(.iconst 0, 1), (.ireturn, 1)]]
def xt57 : xTb := [[(.iload_n 0, 1), (.bipush 97, 2), (.athrow, 0), (.if_icmp .lt 13, 3), (.athrow, 0), (.athrow, 0), (.iload_n 0, 1), (.bipush 122, 2)], [(.athrow, 0), (.if_icmp .gt 7, 3), (.athrow, 0), (.athrow, 0), (.iconst 1, 1), (.goto 4, 3), (.athrow, 0), (.athrow, 0)], [(.iconst 0, 1), (.ireturn, 1)]]
def xt58 : xTb := [[(.aload_n 0, 1), (.invokespecial 1, 3), (.athrow, 0), (.athrow, 0), (.aload_n 0, 1), (.sipush 160, 3), (.athrow, 0), (.athrow, 0)], [(.newarray .int, 2), (.athrow, 0), (.putfield 9, 3), (.athrow, 0), (.athrow, 0), (.aload_n 0, 1), (.iconst 3, 1), (.newarray .int, 2)], [(.athrow, 0), (.putfield 15, 3), (.athrow, 0), (.athrow, 0), (.aload_n 0, 1), (.bipush 40, 2), (.athrow, 0), (.newarray .int, 2)], [(.athrow, 0), (.putfield 18, 3), (.athrow, 0), (.athrow, 0), (.aload_n 0, 1), (.iload_n 1, 1), (.putfield 21, 3), (.athrow, 0)], [(.athrow, 0), (.return_, 1)]]
def xt59 : xTb := [[(.aload_n 0, 1), (.iconst 0, 1), (.putfield 25, 3), (.athrow, 0), (.athrow, 0), (.return_, 1)]]
def xt60 : xTb := [[(.aload_n 0, 1), (.getfield 25, 3), (.athrow, 0), (.athrow, 0), (.sipush 160, 3), (.athrow, 0), (.athrow, 0), (.if_icmp .ge 23, 3)], [(.athrow, 0), (.athrow, 0), (.aload_n 0, 1), (.getfield 9, 3), (.athrow, 0), (.athrow, 0), (.aload_n 0, 1), (.getfield 25, 3)], [(.athrow, 0), (.athrow, 0), (.iload_n 1, 1), (.iastore, 1), (.aload_n 0, 1), (.dup, 1), (.getfield 25, 3), (.athrow, 0)], [(.athrow, 0), (.iconst 1, 1), (.iadd, 1), (.putfield 25, 3), (.athrow, 0), (.athrow, 0), (.return_, 1)]]
def xt61 : xTb := [[(.aload_n 0, 1), (.getfield 15, 3), (.athrow, 0), (.athrow, 0), (.iload_n 1, 1), (.aload_n 0, 1), (.getfield 25, 3), (.athrow, 0)], [(.athrow, 0), (.iastore, 1), (.return_, 1)]]
def xt62 : xTb := [[(.iload_n 1, 1), (.ifCond .ne 7, 3), (.athrow, 0), (.athrow, 0), (.iconst 0, 1), (.goto 11, 3), (.athrow, 0), (.athrow, 0)], [(.aload_n 0, 1), (.getfield 15, 3), (.athrow, 0), (.athrow, 0), (.iload_n 1, 1), (.iconst 1, 1), (.isub, 1), (.iaload, 1)], [(.istore_n 3, 1), (.iconst 0, 1), (.istore 4, 2), (.athrow, 0), (.iload_n 3, 1), (.istore 5, 2), (.athrow, 0), (.iload 5, 2)], [(.athrow, 0), (.aload_n 0, 1), (.getfield 15, 3), (.athrow, 0), (.athrow, 0), (.iload_n 1, 1), (.iaload, 1), (.if_icmp .ge 138, 3)], [(.athrow, 0), (.athrow, 0), (.aload_n 0, 1), (.getfield 9, 3), (.athrow, 0), (.athrow, 0), (.iload 5, 2), (.athrow, 0)], [(.iaload, 1), (.istore 6, 2), (.athrow, 0), (.iload 6, 2), (.athrow, 0), (.bipush (-6), 2), (.athrow, 0), (.if_icmp .lt 39, 3)], [(.athrow, 0), (.athrow, 0), (.iload 4, 2), (.athrow, 0), (.bipush 40, 2), (.athrow, 0), (.if_icmp .ge 109, 3), (.athrow, 0)], [(.athrow, 0), (.aload_n 0, 1), (.getfield 18, 3), (.athrow, 0), (.athrow, 0), (.iload 4, 2), (.athrow, 0), (.iload 6, 2)], [(.athrow, 0), (.ifCond .lt 8, 3), (.athrow, 0), (.athrow, 0), (.iload 6, 2), (.athrow, 0), (.goto 9, 3), (.athrow, 0)], [(.athrow, 0), (.aload_n 2, 1), (.iconst (-1), 1), (.iload 6, 2), (.athrow, 0), (.isub, 1), (.iaload, 1), (.iastore, 1)], [(.iinc 4 1, 3), (.athrow, 0), (.athrow, 0), (.goto 80, 3), (.athrow, 0), (.athrow, 0), (.iload 6, 2), (.athrow, 0)], [(.bipush (-14), 2), (.athrow, 0), (.if_icmp .gt 34, 3), (.athrow, 0), (.athrow, 0), (.iload 4, 2), (.athrow, 0), (.ifCond .le 68, 3)], [(.athrow, 0), (.athrow, 0), (.aload_n 0, 1), (.getfield 18, 3), (.athrow, 0), (.athrow, 0), (.iload 4, 2), (.athrow, 0)], [(.iconst 1, 1), (.isub, 1), (.iload 6, 2), (.athrow, 0), (.aload_n 0, 1), (.getfield 18, 3), (.athrow, 0), (.athrow, 0)], [(.iload 4, 2), (.athrow, 0), (.iconst 1, 1), (.isub, 1), (.iaload, 1), (.invokestatic 28, 3), (.athrow, 0), (.athrow, 0)], [(.iastore, 1), (.goto 42, 3), (.athrow, 0), (.athrow, 0), (.iload 4, 2), (.athrow, 0), (.iconst 1, 1), (.if_icmp .le 36, 3)], [(.athrow, 0), (.athrow, 0), (.iinc 4 (-1), 3), (.athrow, 0), (.athrow, 0), (.aload_n 0, 1), (.getfield 18, 3), (.athrow, 0)], [(.athrow, 0), (.iload 4, 2), (.athrow, 0), (.iconst 1, 1), (.isub, 1), (.iload 6, 2), (.athrow, 0), (.aload_n 0, 1)], [(.getfield 18, 3), (.athrow, 0), (.athrow, 0), (.iload 4, 2), (.athrow, 0), (.iconst 1, 1), (.isub, 1), (.iaload, 1)], [(.aload_n 0, 1), (.getfield 18, 3), (.athrow, 0), (.athrow, 0), (.iload 4, 2), (.athrow, 0), (.iaload, 1), (.invokestatic 32, 3)], [(.athrow, 0), (.athrow, 0), (.iastore, 1), (.iinc 5 1, 3), (.athrow, 0), (.athrow, 0), (.goto (-143), 3), (.athrow, 0)], [(.athrow, 0), (.iload 4, 2), (.athrow, 0), (.ifCond .le 21, 3), (.athrow, 0), (.athrow, 0), (.iconst 0, 1), (.bipush 60, 2)], [(.athrow, 0), (.aload_n 0, 1), (.getfield 18, 3), (.athrow, 0), (.athrow, 0), (.iconst 0, 1), (.iaload, 1), (.invokestatic 36, 3)], [(.athrow, 0), (.athrow, 0), (.invokestatic 41, 3), (.athrow, 0), (.athrow, 0), (.goto 4, 3), (.athrow, 0), (.athrow, 0)], [(.iconst 0, 1), (.ireturn, 1)]]
def xt63 : xTb := [[(.iload_n 0, 1), (.bipush (-15), 2), (.athrow, 0), (.if_icmp .ne 6, 3), (.athrow, 0), (.athrow, 0), (.iload_n 1, 1), (.ineg, 1)], [(.ireturn, 1), (.iload_n 1, 1), (.ifCond .ne 7, 3), (.athrow, 0), (.athrow, 0), (.iconst 1, 1), (.goto 4, 3), (.athrow, 0)], [(.athrow, 0), (.iconst 0, 1), (.ireturn, 1)]]
def xt64 : xTb := [[(.iload_n 0, 1), (.tableswitch 97 (-12) (-7) #[93, 89, 78, 67, 53, 39], 39), (.athrow, 0), (.athrow, 0), (.athrow, 0), (.athrow, 0), (.athrow, 0), (.athrow, 0)], [(.athrow, 0), (.athrow, 0), (.athrow, 0), (.athrow, 0), (.athrow, 0), (.athrow, 0), (.athrow, 0), (.athrow, 0)], [(.athrow, 0), (.athrow, 0), (.athrow, 0), (.athrow, 0), (.athrow, 0), (.athrow, 0), (.athrow, 0), (.athrow, 0)], [(.athrow, 0), (.athrow, 0), (.athrow, 0), (.athrow, 0), (.athrow, 0), (.athrow, 0), (.athrow, 0), (.athrow, 0)], [(.athrow, 0), (.athrow, 0), (.athrow, 0), (.athrow, 0), (.athrow, 0), (.athrow, 0), (.athrow, 0), (.athrow, 0)], [(.iload_n 1, 1), (.ifCond .ne 7, 3), (.athrow, 0), (.athrow, 0), (.iload_n 2, 1), (.ifCond .eq 7, 3), (.athrow, 0), (.athrow, 0)], [(.iconst 1, 1), (.goto 4, 3), (.athrow, 0), (.athrow, 0), (.iconst 0, 1), (.ireturn, 1), (.iload_n 1, 1), (.ifCond .eq 11, 3)], [(.athrow, 0), (.athrow, 0), (.iload_n 2, 1), (.ifCond .eq 7, 3), (.athrow, 0), (.athrow, 0), (.iconst 1, 1), (.goto 4, 3)], [(.athrow, 0), (.athrow, 0), (.iconst 0, 1), (.ireturn, 1), (.iload_n 1, 1), (.iload_n 2, 1), (.if_icmp .ge 7, 3), (.athrow, 0)], [(.athrow, 0), (.iconst 1, 1), (.goto 4, 3), (.athrow, 0), (.athrow, 0), (.iconst 0, 1), (.ireturn, 1), (.iload_n 1, 1)], [(.iload_n 2, 1), (.if_icmp .ne 7, 3), (.athrow, 0), (.athrow, 0), (.iconst 1, 1), (.goto 4, 3), (.athrow, 0), (.athrow, 0)], [(.iconst 0, 1), (.ireturn, 1), (.iload_n 1, 1), (.iload_n 2, 1), (.iadd, 1), (.ireturn, 1), (.iload_n 1, 1), (.iload_n 2, 1)], [(.isub, 1), (.ireturn, 1), (.iload_n 1, 1), (.iload_n 2, 1), (.imul, 1), (.ireturn, 1)]]
def xt65 : xTb := [[(.aload_n 0, 1), (.invokespecial 1, 3), (.athrow, 0), (.athrow, 0), (.aload_n 0, 1), (.new 7, 3), (.athrow, 0), (.athrow, 0)], [(.dup, 1), (.invokespecial 9, 3), (.athrow, 0), (.athrow, 0), (.putfield 10, 3), (.athrow, 0), (.athrow, 0), (.aload_n 0, 1)], [(.bipush 6, 2), (.athrow, 0), (.anewarray 16, 3), (.athrow, 0), (.athrow, 0), (.putfield 18, 3), (.athrow, 0), (.athrow, 0)], [(.aload_n 0, 1), (.new 22, 3), (.athrow, 0), (.athrow, 0), (.dup, 1), (.invokespecial 24, 3), (.athrow, 0), (.athrow, 0)], [(.putfield 25, 3), (.athrow, 0), (.athrow, 0), (.aload_n 0, 1), (.iconst 4, 1), (.anewarray 29, 3), (.athrow, 0), (.athrow, 0)], [(.putfield 31, 3), (.athrow, 0), (.athrow, 0), (.iconst 0, 1), (.istore_n 1, 1), (.iload_n 1, 1), (.bipush 6, 2), (.athrow, 0)], [(.if_icmp .ge 23, 3), (.athrow, 0), (.athrow, 0), (.aload_n 0, 1), (.getfield 18, 3), (.athrow, 0), (.athrow, 0), (.iload_n 1, 1)], [(.new 16, 3), (.athrow, 0), (.athrow, 0), (.dup, 1), (.iload_n 1, 1), (.invokespecial 35, 3), (.athrow, 0), (.athrow, 0)], [(.aastore, 1), (.iinc 1 1, 3), (.athrow, 0), (.athrow, 0), (.goto (-23), 3), (.athrow, 0), (.athrow, 0), (.iconst 0, 1)], [(.istore_n 1, 1), (.iload_n 1, 1), (.iconst 4, 1), (.if_icmp .ge 22, 3), (.athrow, 0), (.athrow, 0), (.aload_n 0, 1), (.getfield 31, 3)], [(.athrow, 0), (.athrow, 0), (.iload_n 1, 1), (.new 29, 3), (.athrow, 0), (.athrow, 0), (.dup, 1), (.invokespecial 38, 3)], [(.athrow, 0), (.athrow, 0), (.aastore, 1), (.iinc 1 1, 3), (.athrow, 0), (.athrow, 0), (.goto (-21), 3), (.athrow, 0)], [(.athrow, 0), (.iconst 0, 1), (.istore_n 1, 1), (.iload_n 1, 1), (.ldc 39, 2), (.athrow, 0), (.invokevirtual 41, 3), (.athrow, 0)], [(.athrow, 0), (.if_icmp .ge 23, 3), (.athrow, 0), (.athrow, 0), (.aload_n 0, 1), (.getfield 10, 3), (.athrow, 0), (.athrow, 0)], [(.ldc 39, 2), (.athrow, 0), (.iload_n 1, 1), (.invokevirtual 47, 3), (.athrow, 0), (.athrow, 0), (.invokevirtual 51, 3), (.athrow, 0)], [(.athrow, 0), (.pop, 1), (.iinc 1 1, 3), (.athrow, 0), (.athrow, 0), (.goto (-26), 3), (.athrow, 0), (.athrow, 0)], [(.aload_n 0, 1), (.new 55, 3), (.athrow, 0), (.athrow, 0), (.dup, 1), (.aload_n 0, 1), (.getfield 10, 3), (.athrow, 0)], [(.athrow, 0), (.aload_n 0, 1), (.getfield 18, 3), (.athrow, 0), (.athrow, 0), (.iconst 0, 1), (.aaload, 1), (.invokespecial 57, 3)], [(.athrow, 0), (.athrow, 0), (.putfield 60, 3), (.athrow, 0), (.athrow, 0), (.aload_n 0, 1), (.getfield 60, 3), (.athrow, 0)], [(.athrow, 0), (.aload_n 0, 1), (.getfield 18, 3), (.athrow, 0), (.athrow, 0), (.iconst 0, 1), (.aaload, 1), (.invokevirtual 64, 3)], [(.athrow, 0), (.athrow, 0), (.pop, 1), (.aload_n 0, 1), (.getfield 10, 3), (.athrow, 0), (.athrow, 0), (.invokevirtual 68, 3)], [(.athrow, 0), (.athrow, 0), (.aload_n 0, 1), (.iconst 1, 1), (.putfield 71, 3), (.athrow, 0), (.athrow, 0), (.aload_n 0, 1)], [(.new 75, 3), (.athrow, 0), (.athrow, 0), (.dup, 1), (.aload_n 0, 1), (.getfield 18, 3), (.athrow, 0), (.athrow, 0)], [(.iconst 0, 1), (.aaload, 1), (.invokespecial 77, 3), (.athrow, 0), (.athrow, 0), (.putfield 80, 3), (.athrow, 0), (.athrow, 0)], [(.aload_n 0, 1), (.new 75, 3), (.athrow, 0), (.athrow, 0), (.dup, 1), (.aload_n 0, 1), (.getfield 18, 3), (.athrow, 0)], [(.athrow, 0), (.iconst 0, 1), (.aaload, 1), (.invokespecial 77, 3), (.athrow, 0), (.athrow, 0), (.putfield 84, 3), (.athrow, 0)], [(.athrow, 0), (.aload_n 0, 1), (.new 75, 3), (.athrow, 0), (.athrow, 0), (.dup, 1), (.aload_n 0, 1), (.getfield 18, 3)], [(.athrow, 0), (.athrow, 0), (.iconst 0, 1), (.aaload, 1), (.invokespecial 77, 3), (.athrow, 0), (.athrow, 0), (.putfield 87, 3)], [(.athrow, 0), (.athrow, 0), (.return_, 1)]]
def xt66 : xTb := [[(.iload_n 1, 1), (.ifCond .lt 8, 3), (.athrow, 0), (.athrow, 0), (.iload_n 1, 1), (.iconst 3, 1), (.if_icmp .le 6, 3), (.athrow, 0)], [(.athrow, 0), (.bipush (-2), 2), (.athrow, 0), (.ireturn, 1), (.iload_n 1, 1), (.iconst 2, 1), (.if_icmp .lt 14, 3), (.athrow, 0)], [(.athrow, 0), (.aload_n 0, 1), (.iload_n 2, 1), (.invokevirtual 90, 3), (.athrow, 0), (.athrow, 0), (.ifCond .ne 6, 3), (.athrow, 0)], [(.athrow, 0), (.bipush (-2), 2), (.athrow, 0), (.ireturn, 1), (.iload_n 3, 1), (.getstatic 93, 3), (.athrow, 0), (.athrow, 0)], [(.iload_n 1, 1), (.iaload, 1), (.if_icmp .lt 12, 3), (.athrow, 0), (.athrow, 0), (.iload_n 3, 1), (.getstatic 97, 3), (.athrow, 0)], [(.athrow, 0), (.iload_n 1, 1), (.iaload, 1), (.if_icmp .le 6, 3), (.athrow, 0), (.athrow, 0), (.bipush (-2), 2), (.athrow, 0)], [(.ireturn, 1), (.aload_n 0, 1), (.iload_n 1, 1), (.iload_n 2, 1), (.invokevirtual 100, 3), (.athrow, 0), (.athrow, 0), (.istore 4, 2)], [(.athrow, 0), (.iload_n 1, 1), (.tableswitch 61 0 2 #[26, 37, 48], 26), (.athrow, 0), (.athrow, 0), (.athrow, 0), (.athrow, 0), (.athrow, 0)], [(.athrow, 0), (.athrow, 0), (.athrow, 0), (.athrow, 0), (.athrow, 0), (.athrow, 0), (.athrow, 0), (.athrow, 0)], [(.athrow, 0), (.athrow, 0), (.athrow, 0), (.athrow, 0), (.athrow, 0), (.athrow, 0), (.athrow, 0), (.athrow, 0)], [(.athrow, 0), (.athrow, 0), (.athrow, 0), (.athrow, 0), (.aload_n 0, 1), (.getfield 80, 3), (.athrow, 0), (.athrow, 0)], [(.iload_n 3, 1), (.putfield 104, 3), (.athrow, 0), (.athrow, 0), (.goto 37, 3), (.athrow, 0), (.athrow, 0), (.aload_n 0, 1)], [(.getfield 80, 3), (.athrow, 0), (.athrow, 0), (.iload_n 3, 1), (.putfield 107, 3), (.athrow, 0), (.athrow, 0), (.goto 26, 3)], [(.athrow, 0), (.athrow, 0), (.aload_n 0, 1), (.getfield 80, 3), (.athrow, 0), (.athrow, 0), (.getfield 110, 3), (.athrow, 0)], [(.athrow, 0), (.iload_n 2, 1), (.iload_n 3, 1), (.iastore, 1), (.goto 13, 3), (.athrow, 0), (.athrow, 0), (.aload_n 0, 1)], [(.getfield 80, 3), (.athrow, 0), (.athrow, 0), (.getfield 113, 3), (.athrow, 0), (.athrow, 0), (.iload_n 2, 1), (.iload_n 3, 1)], [(.iastore, 1), (.iload 4, 2), (.athrow, 0), (.ireturn, 1)]]
def xt67 : xTb := [[(.aload_n 0, 1), (.iload_n 1, 1), (.iload_n 2, 1), (.invokevirtual 116, 3), (.athrow, 0), (.athrow, 0), (.ireturn, 1)]]
def xt68 : xTb := [[(.aload_n 0, 1), (.iload_n 1, 1), (.iload_n 2, 1), (.invokevirtual 119, 3), (.athrow, 0), (.athrow, 0), (.ifCond .eq 13, 3), (.athrow, 0)], [(.athrow, 0), (.iload_n 3, 1), (.ifCond .lt 9, 3), (.athrow, 0), (.athrow, 0), (.iload_n 3, 1), (.bipush 99, 2), (.athrow, 0)], [(.if_icmp .le 6, 3), (.athrow, 0), (.athrow, 0), (.bipush (-2), 2), (.athrow, 0), (.ireturn, 1), (.aload_n 0, 1), (.getfield 80, 3)], [(.athrow, 0), (.athrow, 0), (.getfield 123, 3), (.athrow, 0), (.athrow, 0), (.iload_n 1, 1), (.aaload, 1), (.iload_n 2, 1)], [(.iaload, 1), (.istore 4, 2), (.athrow, 0), (.aload_n 0, 1), (.getfield 80, 3), (.athrow, 0), (.athrow, 0), (.iload_n 1, 1)], [(.iload_n 2, 1), (.iload_n 3, 1), (.invokevirtual 127, 3), (.athrow, 0), (.athrow, 0), (.iload 4, 2), (.athrow, 0), (.ireturn, 1)]]
def xt69 : xTb := [[(.iload_n 2, 1), (.ifCond .eq 8, 3), (.athrow, 0), (.athrow, 0), (.iload_n 2, 1), (.iconst 1, 1), (.if_icmp .ne 10, 3), (.athrow, 0)], [(.athrow, 0), (.aload_n 0, 1), (.iload_n 2, 1), (.iload_n 1, 1), (.invokevirtual 100, 3), (.athrow, 0), (.athrow, 0), (.ireturn, 1)], [(.aload_n 0, 1), (.iload_n 1, 1), (.invokevirtual 90, 3), (.athrow, 0), (.athrow, 0), (.ifCond .ne 6, 3), (.athrow, 0), (.athrow, 0)], [(.bipush (-2), 2), (.athrow, 0), (.ireturn, 1), (.iload_n 2, 1), (.tableswitch 92 2 7 #[40, 40, 47, 57, 66, 83], 40), (.athrow, 0), (.athrow, 0), (.athrow, 0)], [(.athrow, 0), (.athrow, 0), (.athrow, 0), (.athrow, 0), (.athrow, 0), (.athrow, 0), (.athrow, 0), (.athrow, 0)], [(.athrow, 0), (.athrow, 0), (.athrow, 0), (.athrow, 0), (.athrow, 0), (.athrow, 0), (.athrow, 0), (.athrow, 0)], [(.athrow, 0), (.athrow, 0), (.athrow, 0), (.athrow, 0), (.athrow, 0), (.athrow, 0), (.athrow, 0), (.athrow, 0)], [(.athrow, 0), (.athrow, 0), (.athrow, 0), (.athrow, 0), (.athrow, 0), (.athrow, 0), (.athrow, 0), (.athrow, 0)], [(.athrow, 0), (.athrow, 0), (.athrow, 0), (.athrow, 0), (.aload_n 0, 1), (.iload_n 2, 1), (.iload_n 1, 1), (.invokevirtual 100, 3)], [(.athrow, 0), (.athrow, 0), (.ireturn, 1), (.aload_n 0, 1), (.getfield 80, 3), (.athrow, 0), (.athrow, 0), (.getfield 131, 3)], [(.athrow, 0), (.athrow, 0), (.iload_n 1, 1), (.iaload, 1), (.ireturn, 1), (.aload_n 0, 1), (.getfield 80, 3), (.athrow, 0)], [(.athrow, 0), (.iload_n 1, 1), (.invokevirtual 134, 3), (.athrow, 0), (.athrow, 0), (.ireturn, 1), (.aload_n 0, 1), (.getfield 80, 3)], [(.athrow, 0), (.athrow, 0), (.aload_n 0, 1), (.getfield 80, 3), (.athrow, 0), (.athrow, 0), (.getfield 113, 3), (.athrow, 0)], [(.athrow, 0), (.iload_n 1, 1), (.iaload, 1), (.invokevirtual 138, 3), (.athrow, 0), (.athrow, 0), (.ireturn, 1), (.aload_n 0, 1)], [(.getfield 80, 3), (.athrow, 0), (.athrow, 0), (.iload_n 1, 1), (.invokevirtual 141, 3), (.athrow, 0), (.athrow, 0), (.ireturn, 1)], [(.iload_n 2, 1), (.bipush 10, 2), (.athrow, 0), (.isub, 1), (.istore_n 3, 1), (.aload_n 0, 1), (.iload_n 3, 1), (.invokevirtual 90, 3)], [(.athrow, 0), (.athrow, 0), (.ifCond .eq 17, 3), (.athrow, 0), (.athrow, 0), (.aload_n 0, 1), (.getfield 80, 3), (.athrow, 0)], [(.athrow, 0), (.getfield 123, 3), (.athrow, 0), (.athrow, 0), (.iload_n 1, 1), (.aaload, 1), (.iload_n 3, 1), (.iaload, 1)], [(.goto 5, 3), (.athrow, 0), (.athrow, 0), (.bipush (-2), 2), (.athrow, 0), (.ireturn, 1)]]
def xt70 : xTb := [[(.iload_n 1, 1), (.ifCond .lt 10, 3), (.athrow, 0), (.athrow, 0), (.iload_n 1, 1), (.sipush 255, 3), (.athrow, 0), (.athrow, 0)], [(.if_icmp .le 6, 3), (.athrow, 0), (.athrow, 0), (.bipush (-2), 2), (.athrow, 0), (.ireturn, 1), (.aload_n 0, 1), (.getfield 10, 3)], [(.athrow, 0), (.athrow, 0), (.iload_n 1, 1), (.invokevirtual 51, 3), (.athrow, 0), (.athrow, 0), (.ifCond .eq 13, 3), (.athrow, 0)], [(.athrow, 0), (.aload_n 0, 1), (.getfield 10, 3), (.athrow, 0), (.athrow, 0), (.getfield 144, 3), (.athrow, 0), (.athrow, 0)], [(.goto 5, 3), (.athrow, 0), (.athrow, 0), (.bipush (-4), 2), (.athrow, 0), (.ireturn, 1)]]
def xt71 : xTb := [[(.aload_n 0, 1), (.getfield 71, 3), (.athrow, 0), (.athrow, 0), (.bipush 6, 2), (.athrow, 0), (.if_icmp .lt 6, 3), (.athrow, 0)], [(.athrow, 0), (.bipush (-4), 2), (.athrow, 0), (.ireturn, 1), (.aload_n 0, 1), (.getfield 60, 3), (.athrow, 0), (.athrow, 0)], [(.aload_n 0, 1), (.getfield 18, 3), (.athrow, 0), (.athrow, 0), (.aload_n 0, 1), (.getfield 71, 3), (.athrow, 0), (.athrow, 0)], [(.aaload, 1), (.invokevirtual 64, 3), (.athrow, 0), (.athrow, 0), (.istore_n 1, 1), (.aload_n 0, 1), (.getfield 10, 3), (.athrow, 0)], [(.athrow, 0), (.invokevirtual 68, 3), (.athrow, 0), (.athrow, 0), (.iload_n 1, 1), (.iconst (-1), 1), (.if_icmp .eq 8, 3), (.athrow, 0)], [(.athrow, 0), (.bipush (-100), 2), (.athrow, 0), (.iload_n 1, 1), (.isub, 1), (.ireturn, 1), (.aload_n 0, 1), (.dup, 1)], [(.getfield 71, 3), (.athrow, 0), (.athrow, 0), (.iconst 1, 1), (.iadd, 1), (.putfield 71, 3), (.athrow, 0), (.athrow, 0)], [(.aload_n 0, 1), (.getfield 71, 3), (.athrow, 0), (.athrow, 0), (.iconst 1, 1), (.isub, 1), (.ireturn, 1)]]
def xt72 : xTb := [[(.iload_n 1, 1), (.ifCond .lt 11, 3), (.athrow, 0), (.athrow, 0), (.iload_n 1, 1), (.aload_n 0, 1), (.getfield 71, 3), (.athrow, 0)], [(.athrow, 0), (.if_icmp .lt 6, 3), (.athrow, 0), (.athrow, 0), (.bipush (-2), 2), (.athrow, 0), (.ireturn, 1), (.aload_n 0, 1)], [(.getfield 80, 3), (.athrow, 0), (.athrow, 0), (.getfield 147, 3), (.athrow, 0), (.athrow, 0), (.getfield 151, 3), (.athrow, 0)], [(.athrow, 0), (.istore_n 2, 1), (.aload_n 0, 1), (.getfield 80, 3), (.athrow, 0), (.athrow, 0), (.aload_n 0, 1), (.getfield 18, 3)], [(.athrow, 0), (.athrow, 0), (.iload_n 1, 1), (.aaload, 1), (.putfield 147, 3), (.athrow, 0), (.athrow, 0), (.iload_n 2, 1)], [(.ireturn, 1)]]
def xt73 : xTb := [[(.aload_n 0, 1), (.iload_n 1, 1), (.iload_n 2, 1), (.invokevirtual 119, 3), (.athrow, 0), (.athrow, 0), (.ifCond .eq 10, 3), (.athrow, 0)], [(.athrow, 0), (.iload_n 3, 1), (.invokestatic 154, 3), (.athrow, 0), (.athrow, 0), (.ifCond .ne 6, 3), (.athrow, 0), (.athrow, 0)], [(.bipush (-2), 2), (.athrow, 0), (.ireturn, 1), (.iload_n 3, 1), (.ifCond .ne 15, 3), (.athrow, 0), (.athrow, 0), (.aload_n 0, 1)], [(.getfield 80, 3), (.athrow, 0), (.athrow, 0), (.iload_n 1, 1), (.iload_n 2, 1), (.invokevirtual 157, 3), (.athrow, 0), (.athrow, 0)], [(.goto 12, 3), (.athrow, 0), (.athrow, 0), (.aload_n 0, 1), (.getfield 80, 3), (.athrow, 0), (.athrow, 0), (.iload_n 1, 1)], [(.iload_n 2, 1), (.invokevirtual 160, 3), (.athrow, 0), (.athrow, 0), (.ireturn, 1)]]
def xt74 : xTb := [[(.aload_n 0, 1), (.getfield 80, 3), (.athrow, 0), (.athrow, 0), (.invokevirtual 163, 3), (.athrow, 0), (.athrow, 0), (.aload_n 0, 1)], [(.getfield 80, 3), (.athrow, 0), (.athrow, 0), (.invokevirtual 166, 3), (.athrow, 0), (.athrow, 0), (.ireturn, 1)]]
def xt75 : xTb := [[(.aload_n 0, 1), (.getfield 80, 3), (.athrow, 0), (.athrow, 0), (.getfield 104, 3), (.athrow, 0), (.athrow, 0), (.sipush 999, 3)], [(.athrow, 0), (.athrow, 0), (.if_icmp .lt 6, 3), (.athrow, 0), (.athrow, 0), (.bipush (-3), 2), (.athrow, 0), (.ireturn, 1)], [(.aload_n 0, 1), (.getfield 80, 3), (.athrow, 0), (.athrow, 0), (.invokevirtual 169, 3), (.athrow, 0), (.athrow, 0), (.aload_n 0, 1)], [(.getfield 80, 3), (.athrow, 0), (.athrow, 0), (.invokevirtual 166, 3), (.athrow, 0), (.athrow, 0), (.ireturn, 1)]]
def xt76 : xTb := [[(.iload_n 1, 1), (.ifCond .lt 8, 3), (.athrow, 0), (.athrow, 0), (.iload_n 1, 1), (.iconst 5, 1), (.if_icmp .le 6, 3), (.athrow, 0)], [(.athrow, 0), (.bipush (-2), 2), (.athrow, 0), (.ireturn, 1), (.aload_n 0, 1), (.aload_n 0, 1), (.getfield 80, 3), (.athrow, 0)], [(.athrow, 0), (.iload_n 1, 1), (.invokevirtual 172, 3), (.athrow, 0), (.athrow, 0), (.ireturn, 1)]]
def xt77 : xTb := [[(.aload_n 0, 1), (.iload_n 1, 1), (.invokevirtual 90, 3), (.athrow, 0), (.athrow, 0), (.ifCond .eq 11, 3), (.athrow, 0), (.athrow, 0)], [(.aload_n 0, 1), (.iload_n 2, 1), (.invokevirtual 90, 3), (.athrow, 0), (.athrow, 0), (.ifCond .ne 6, 3), (.athrow, 0), (.athrow, 0)], [(.bipush (-2), 2), (.athrow, 0), (.ireturn, 1), (.aload_n 0, 1), (.getfield 25, 3), (.athrow, 0), (.athrow, 0), (.aload_n 0, 1)], [(.getfield 80, 3), (.athrow, 0), (.athrow, 0), (.invokevirtual 176, 3), (.athrow, 0), (.athrow, 0), (.aload_n 0, 1), (.getfield 25, 3)], [(.athrow, 0), (.athrow, 0), (.iload_n 1, 1), (.iload_n 2, 1), (.invokevirtual 180, 3), (.athrow, 0), (.athrow, 0), (.ireturn, 1)]]
def xt78 : xTb := [[(.iload_n 1, 1), (.invokestatic 183, 3), (.athrow, 0), (.athrow, 0), (.ifCond .eq 12, 3), (.athrow, 0), (.athrow, 0), (.iload_n 2, 1)], [(.ifCond .lt 8, 3), (.athrow, 0), (.athrow, 0), (.iload_n 2, 1), (.iconst 4, 1), (.if_icmp .le 6, 3), (.athrow, 0), (.athrow, 0)], [(.bipush (-2), 2), (.athrow, 0), (.ireturn, 1), (.aload_n 0, 1), (.getfield 84, 3), (.athrow, 0), (.athrow, 0), (.aload_n 0, 1)], [(.getfield 80, 3), (.athrow, 0), (.athrow, 0), (.invokevirtual 186, 3), (.athrow, 0), (.athrow, 0), (.aload_n 0, 1), (.getfield 84, 3)], [(.athrow, 0), (.athrow, 0), (.iload_n 1, 1), (.invokevirtual 189, 3), (.athrow, 0), (.athrow, 0), (.pop, 1), (.aload_n 0, 1)], [(.aload_n 0, 1), (.getfield 84, 3), (.athrow, 0), (.athrow, 0), (.iload_n 2, 1), (.invokevirtual 172, 3), (.athrow, 0), (.athrow, 0)], [(.ireturn, 1)]]
def xt79 : xTb := [[(.iload_n 1, 1), (.invokestatic 192, 3), (.athrow, 0), (.athrow, 0), (.ifCond .ne 6, 3), (.athrow, 0), (.athrow, 0), (.bipush (-2), 2)], [(.athrow, 0), (.ireturn, 1), (.aload_n 0, 1), (.getfield 84, 3), (.athrow, 0), (.athrow, 0), (.aload_n 0, 1), (.getfield 80, 3)], [(.athrow, 0), (.athrow, 0), (.invokevirtual 186, 3), (.athrow, 0), (.athrow, 0), (.aload_n 0, 1), (.getfield 84, 3), (.athrow, 0)], [(.athrow, 0), (.invokevirtual 166, 3), (.athrow, 0), (.athrow, 0), (.istore_n 2, 1), (.iconst 0, 1), (.istore_n 3, 1), (.iload_n 3, 1)], [(.bipush 20, 2), (.athrow, 0), (.if_icmp .ge 23, 3), (.athrow, 0), (.athrow, 0), (.iload_n 2, 1), (.iload_n 1, 1), (.if_icmp .ge 18, 3)], [(.athrow, 0), (.athrow, 0), (.aload_n 0, 1), (.getfield 84, 3), (.athrow, 0), (.athrow, 0), (.iconst 1, 1), (.invokevirtual 189, 3)], [(.athrow, 0), (.athrow, 0), (.istore_n 2, 1), (.iinc 3 1, 3), (.athrow, 0), (.athrow, 0), (.goto (-23), 3), (.athrow, 0)], [(.athrow, 0), (.iload_n 2, 1), (.iload_n 1, 1), (.if_icmp .lt 7, 3), (.athrow, 0), (.athrow, 0), (.iload_n 3, 1), (.goto 4, 3)], [(.athrow, 0), (.athrow, 0), (.iconst (-1), 1), (.ireturn, 1)]]
def xt80 : xTb := [[(.aload_n 0, 1), (.iload_n 1, 1), (.invokevirtual 90, 3), (.athrow, 0), (.athrow, 0), (.ifCond .eq 17, 3), (.athrow, 0), (.athrow, 0)], [(.iload_n 2, 1), (.invokestatic 183, 3), (.athrow, 0), (.athrow, 0), (.ifCond .eq 10, 3), (.athrow, 0), (.athrow, 0), (.iload_n 3, 1)], [(.invokestatic 154, 3), (.athrow, 0), (.athrow, 0), (.ifCond .ne 6, 3), (.athrow, 0), (.athrow, 0), (.bipush (-2), 2), (.athrow, 0)], [(.ireturn, 1), (.iconst (-1), 1), (.istore 4, 2), (.athrow, 0), (.iconst (-1), 1), (.istore 5, 2), (.athrow, 0), (.iconst 0, 1)], [(.istore 6, 2), (.athrow, 0), (.iload 6, 2), (.athrow, 0), (.iconst 4, 1), (.if_icmp .ge 56, 3), (.athrow, 0), (.athrow, 0)], [(.aload_n 0, 1), (.getfield 84, 3), (.athrow, 0), (.athrow, 0), (.aload_n 0, 1), (.getfield 80, 3), (.athrow, 0), (.athrow, 0)], [(.invokevirtual 186, 3), (.athrow, 0), (.athrow, 0), (.aload_n 0, 1), (.getfield 84, 3), (.athrow, 0), (.athrow, 0), (.getfield 113, 3)], [(.athrow, 0), (.athrow, 0), (.iload_n 1, 1), (.iload 6, 2), (.athrow, 0), (.iastore, 1), (.aload_n 0, 1), (.getfield 84, 3)], [(.athrow, 0), (.athrow, 0), (.iload_n 2, 1), (.invokevirtual 189, 3), (.athrow, 0), (.athrow, 0), (.istore 7, 2), (.athrow, 0)], [(.iload 7, 2), (.athrow, 0), (.iload 5, 2), (.athrow, 0), (.if_icmp .le 11, 3), (.athrow, 0), (.athrow, 0), (.iload 7, 2)], [(.athrow, 0), (.istore 5, 2), (.athrow, 0), (.iload 6, 2), (.athrow, 0), (.istore 4, 2), (.athrow, 0), (.iinc 6 1, 3)], [(.athrow, 0), (.athrow, 0), (.goto (-56), 3), (.athrow, 0), (.athrow, 0), (.iload_n 3, 1), (.ifCond .ne 8, 3), (.athrow, 0)], [(.athrow, 0), (.iload 4, 2), (.athrow, 0), (.goto 5, 3), (.athrow, 0), (.athrow, 0), (.iload 5, 2), (.athrow, 0)], [(.ireturn, 1)]]
def xt81 : xTb := [[(.iload_n 1, 1), (.invokestatic 183, 3), (.athrow, 0), (.athrow, 0), (.ifCond .eq 10, 3), (.athrow, 0), (.athrow, 0), (.iload_n 2, 1)], [(.invokestatic 154, 3), (.athrow, 0), (.athrow, 0), (.ifCond .ne 6, 3), (.athrow, 0), (.athrow, 0), (.bipush (-2), 2), (.athrow, 0)], [(.ireturn, 1), (.aload_n 0, 1), (.getfield 84, 3), (.athrow, 0), (.athrow, 0), (.aload_n 0, 1), (.getfield 80, 3), (.athrow, 0)], [(.athrow, 0), (.invokevirtual 186, 3), (.athrow, 0), (.athrow, 0), (.iconst (-1), 1), (.istore_n 3, 1), (.aload_n 0, 1), (.getfield 84, 3)], [(.athrow, 0), (.athrow, 0), (.iload_n 1, 1), (.invokevirtual 189, 3), (.athrow, 0), (.athrow, 0), (.istore 4, 2), (.athrow, 0)], [(.iconst 0, 1), (.istore 5, 2), (.athrow, 0), (.iload 5, 2), (.athrow, 0), (.aload_n 0, 1), (.getfield 80, 3), (.athrow, 0)], [(.athrow, 0), (.getfield 195, 3), (.athrow, 0), (.athrow, 0), (.if_icmp .ge 128, 3), (.athrow, 0), (.athrow, 0), (.iload 5, 2)], [(.athrow, 0), (.iconst 1, 1), (.iadd, 1), (.istore 6, 2), (.athrow, 0), (.iload 6, 2), (.athrow, 0), (.aload_n 0, 1)], [(.getfield 80, 3), (.athrow, 0), (.athrow, 0), (.getfield 195, 3), (.athrow, 0), (.athrow, 0), (.if_icmp .ge 104, 3), (.athrow, 0)], [(.athrow, 0), (.aload_n 0, 1), (.iload 5, 2), (.athrow, 0), (.iload 6, 2), (.athrow, 0), (.invokevirtual 198, 3), (.athrow, 0)], [(.athrow, 0), (.ifCond .ne 6, 3), (.athrow, 0), (.athrow, 0), (.goto 84, 3), (.athrow, 0), (.athrow, 0), (.aload_n 0, 1)], [(.getfield 84, 3), (.athrow, 0), (.athrow, 0), (.aload_n 0, 1), (.getfield 80, 3), (.athrow, 0), (.athrow, 0), (.invokevirtual 186, 3)], [(.athrow, 0), (.athrow, 0), (.aload_n 0, 1), (.getfield 84, 3), (.athrow, 0), (.athrow, 0), (.getfield 113, 3), (.athrow, 0)], [(.athrow, 0), (.iload 5, 2), (.athrow, 0), (.aload_n 0, 1), (.getfield 80, 3), (.athrow, 0), (.athrow, 0), (.getfield 113, 3)], [(.athrow, 0), (.athrow, 0), (.iload 6, 2), (.athrow, 0), (.iaload, 1), (.iastore, 1), (.aload_n 0, 1), (.getfield 84, 3)], [(.athrow, 0), (.athrow, 0), (.getfield 113, 3), (.athrow, 0), (.athrow, 0), (.iload 6, 2), (.athrow, 0), (.aload_n 0, 1)], [(.getfield 80, 3), (.athrow, 0), (.athrow, 0), (.getfield 113, 3), (.athrow, 0), (.athrow, 0), (.iload 5, 2), (.athrow, 0)], [(.iaload, 1), (.iastore, 1), (.aload_n 0, 1), (.getfield 84, 3), (.athrow, 0), (.athrow, 0), (.iload_n 1, 1), (.invokevirtual 189, 3)], [(.athrow, 0), (.athrow, 0), (.istore 7, 2), (.athrow, 0), (.iload 7, 2), (.athrow, 0), (.iload 4, 2), (.athrow, 0)], [(.if_icmp .le 16, 3), (.athrow, 0), (.athrow, 0), (.iload 7, 2), (.athrow, 0), (.istore 4, 2), (.athrow, 0), (.bipush 10, 2)], [(.athrow, 0), (.iload 5, 2), (.athrow, 0), (.imul, 1), (.iload 6, 2), (.athrow, 0), (.iadd, 1), (.istore_n 3, 1)], [(.iinc 6 1, 3), (.athrow, 0), (.athrow, 0), (.goto (-110), 3), (.athrow, 0), (.athrow, 0), (.iinc 5 1, 3), (.athrow, 0)], [(.athrow, 0), (.goto (-134), 3), (.athrow, 0), (.athrow, 0), (.iload_n 2, 1), (.ifCond .ne 7, 3), (.athrow, 0), (.athrow, 0)], [(.iload_n 3, 1), (.goto 5, 3), (.athrow, 0), (.athrow, 0), (.iload 4, 2), (.athrow, 0), (.ireturn, 1)]]
def xt82 : xTb := [[(.iload_n 1, 1), (.ifCond .lt 15, 3), (.athrow, 0), (.athrow, 0), (.iload_n 1, 1), (.iconst 2, 1), (.if_icmp .gt 10, 3), (.athrow, 0)], [(.athrow, 0), (.iload_n 2, 1), (.invokestatic 154, 3), (.athrow, 0), (.athrow, 0), (.ifCond .ne 6, 3), (.athrow, 0), (.athrow, 0)], [(.bipush (-2), 2), (.athrow, 0), (.ireturn, 1), (.iconst 0, 1), (.istore_n 3, 1), (.iconst (-1), 1), (.istore 4, 2), (.athrow, 0)], [(.aload_n 0, 1), (.getfield 80, 3), (.athrow, 0), (.athrow, 0), (.getfield 195, 3), (.athrow, 0), (.athrow, 0), (.ifCond .le 17, 3)], [(.athrow, 0), (.athrow, 0), (.iconst 1, 1), (.aload_n 0, 1), (.getfield 80, 3), (.athrow, 0), (.athrow, 0), (.getfield 195, 3)], [(.athrow, 0), (.athrow, 0), (.iconst 1, 1), (.isub, 1), (.ishl, 1), (.goto 4, 3), (.athrow, 0), (.athrow, 0)], [(.iconst 1, 1), (.istore 5, 2), (.athrow, 0), (.iconst 0, 1), (.istore 6, 2), (.athrow, 0), (.iload 6, 2), (.athrow, 0)], [(.iload 5, 2), (.athrow, 0), (.if_icmp .ge 82, 3), (.athrow, 0), (.athrow, 0), (.aload_n 0, 1), (.getfield 84, 3), (.athrow, 0)], [(.athrow, 0), (.aload_n 0, 1), (.getfield 80, 3), (.athrow, 0), (.athrow, 0), (.invokevirtual 186, 3), (.athrow, 0), (.athrow, 0)], [(.iconst 0, 1), (.istore 7, 2), (.athrow, 0), (.iload 7, 2), (.athrow, 0), (.aload_n 0, 1), (.getfield 80, 3), (.athrow, 0)], [(.athrow, 0), (.getfield 195, 3), (.athrow, 0), (.athrow, 0), (.if_icmp .ge 26, 3), (.athrow, 0), (.athrow, 0), (.aload_n 0, 1)], [(.getfield 84, 3), (.athrow, 0), (.athrow, 0), (.getfield 113, 3), (.athrow, 0), (.athrow, 0), (.iload 7, 2), (.athrow, 0)], [(.iload 6, 2), (.athrow, 0), (.iload 7, 2), (.athrow, 0), (.ishr, 1), (.iconst 1, 1), (.iand, 1), (.iastore, 1)], [(.iinc 7 1, 3), (.athrow, 0), (.athrow, 0), (.goto (-32), 3), (.athrow, 0), (.athrow, 0), (.aload_n 0, 1), (.getfield 84, 3)], [(.athrow, 0), (.athrow, 0), (.iload_n 1, 1), (.invokevirtual 189, 3), (.athrow, 0), (.athrow, 0), (.istore 7, 2), (.athrow, 0)], [(.iload 7, 2), (.athrow, 0), (.iload 4, 2), (.athrow, 0), (.if_icmp .le 10, 3), (.athrow, 0), (.athrow, 0), (.iload 7, 2)], [(.athrow, 0), (.istore 4, 2), (.athrow, 0), (.iload 6, 2), (.athrow, 0), (.istore_n 3, 1), (.iinc 6 1, 3), (.athrow, 0)], [(.athrow, 0), (.goto (-83), 3), (.athrow, 0), (.athrow, 0), (.iload_n 2, 1), (.ifCond .ne 7, 3), (.athrow, 0), (.athrow, 0)], [(.iload_n 3, 1), (.goto 5, 3), (.athrow, 0), (.athrow, 0), (.iload 4, 2), (.athrow, 0), (.ireturn, 1)]]
def xt83 : xTb := [[(.iload_n 1, 1), (.invokestatic 154, 3), (.athrow, 0), (.athrow, 0), (.ifCond .ne 6, 3), (.athrow, 0), (.athrow, 0), (.bipush (-2), 2)], [(.athrow, 0), (.ireturn, 1), (.aload_n 0, 1), (.getfield 25, 3), (.athrow, 0), (.athrow, 0), (.aload_n 0, 1), (.getfield 80, 3)], [(.athrow, 0), (.athrow, 0), (.invokevirtual 176, 3), (.athrow, 0), (.athrow, 0), (.iconst (-1), 1), (.istore_n 2, 1), (.iconst (-1), 1)], [(.istore_n 3, 1), (.iconst 0, 1), (.istore 4, 2), (.athrow, 0), (.iload 4, 2), (.athrow, 0), (.aload_n 0, 1), (.getfield 80, 3)], [(.athrow, 0), (.athrow, 0), (.getfield 195, 3), (.athrow, 0), (.athrow, 0), (.if_icmp .ge 44, 3), (.athrow, 0), (.athrow, 0)], [(.aload_n 0, 1), (.getfield 25, 3), (.athrow, 0), (.athrow, 0), (.aload_n 0, 1), (.getfield 25, 3), (.athrow, 0), (.athrow, 0)], [(.invokevirtual 201, 3), (.athrow, 0), (.athrow, 0), (.iconst 1, 1), (.iload 4, 2), (.athrow, 0), (.ishl, 1), (.iconst (-1), 1)], [(.ixor, 1), (.iand, 1), (.invokevirtual 204, 3), (.athrow, 0), (.athrow, 0), (.istore 5, 2), (.athrow, 0), (.iload 5, 2)], [(.athrow, 0), (.iload_n 3, 1), (.if_icmp .le 9, 3), (.athrow, 0), (.athrow, 0), (.iload 5, 2), (.athrow, 0), (.istore_n 3, 1)], [(.iload 4, 2), (.athrow, 0), (.istore_n 2, 1), (.iinc 4 1, 3), (.athrow, 0), (.athrow, 0), (.goto (-50), 3), (.athrow, 0)], [(.athrow, 0), (.iload_n 1, 1), (.ifCond .ne 7, 3), (.athrow, 0), (.athrow, 0), (.iload_n 2, 1), (.goto 4, 3), (.athrow, 0)], [(.athrow, 0), (.iload_n 3, 1), (.ireturn, 1)]]
def xt84 : xTb := [[(.iload_n 1, 1), (.invokestatic 154, 3), (.athrow, 0), (.athrow, 0), (.ifCond .ne 6, 3), (.athrow, 0), (.athrow, 0), (.bipush (-2), 2)], [(.athrow, 0), (.ireturn, 1), (.aload_n 0, 1), (.getfield 25, 3), (.athrow, 0), (.athrow, 0), (.aload_n 0, 1), (.getfield 80, 3)], [(.athrow, 0), (.athrow, 0), (.invokevirtual 176, 3), (.athrow, 0), (.athrow, 0), (.iconst (-1), 1), (.istore_n 2, 1), (.aload_n 0, 1)], [(.getfield 25, 3), (.athrow, 0), (.athrow, 0), (.bipush 9, 2), (.athrow, 0), (.invokevirtual 207, 3), (.athrow, 0), (.athrow, 0)], [(.istore_n 3, 1), (.iconst 0, 1), (.istore 4, 2), (.athrow, 0), (.iload 4, 2), (.athrow, 0), (.aload_n 0, 1), (.getfield 80, 3)], [(.athrow, 0), (.athrow, 0), (.getfield 195, 3), (.athrow, 0), (.athrow, 0), (.if_icmp .ge 101, 3), (.athrow, 0), (.athrow, 0)], [(.iload 4, 2), (.athrow, 0), (.iconst 1, 1), (.iadd, 1), (.istore 5, 2), (.athrow, 0), (.iload 5, 2), (.athrow, 0)], [(.aload_n 0, 1), (.getfield 80, 3), (.athrow, 0), (.athrow, 0), (.getfield 195, 3), (.athrow, 0), (.athrow, 0), (.if_icmp .ge 77, 3)], [(.athrow, 0), (.athrow, 0), (.aload_n 0, 1), (.getfield 80, 3), (.athrow, 0), (.athrow, 0), (.iload 4, 2), (.athrow, 0)], [(.iload 5, 2), (.athrow, 0), (.invokevirtual 210, 3), (.athrow, 0), (.athrow, 0), (.ifCond .eq 6, 3), (.athrow, 0), (.athrow, 0)], [(.goto 54, 3), (.athrow, 0), (.athrow, 0), (.aload_n 0, 1), (.getfield 25, 3), (.athrow, 0), (.athrow, 0), (.iload 4, 2)], [(.athrow, 0), (.iload 5, 2), (.athrow, 0), (.invokevirtual 213, 3), (.athrow, 0), (.athrow, 0), (.aload_n 0, 1), (.getfield 25, 3)], [(.athrow, 0), (.athrow, 0), (.bipush 9, 2), (.athrow, 0), (.invokevirtual 207, 3), (.athrow, 0), (.athrow, 0), (.istore 6, 2)], [(.athrow, 0), (.aload_n 0, 1), (.getfield 25, 3), (.athrow, 0), (.athrow, 0), (.iload 4, 2), (.athrow, 0), (.iload 5, 2)], [(.athrow, 0), (.invokevirtual 213, 3), (.athrow, 0), (.athrow, 0), (.iload 6, 2), (.athrow, 0), (.iload_n 3, 1), (.if_icmp .ge 15, 3)], [(.athrow, 0), (.athrow, 0), (.iload 6, 2), (.athrow, 0), (.istore_n 3, 1), (.bipush 10, 2), (.athrow, 0), (.iload 4, 2)], [(.athrow, 0), (.imul, 1), (.iload 5, 2), (.athrow, 0), (.iadd, 1), (.istore_n 2, 1), (.iinc 5 1, 3), (.athrow, 0)], [(.athrow, 0), (.goto (-83), 3), (.athrow, 0), (.athrow, 0), (.iinc 4 1, 3), (.athrow, 0), (.athrow, 0), (.goto (-107), 3)], [(.athrow, 0), (.athrow, 0), (.iload_n 1, 1), (.ifCond .ne 7, 3), (.athrow, 0), (.athrow, 0), (.iload_n 2, 1), (.goto 4, 3)], [(.athrow, 0), (.athrow, 0), (.iload_n 3, 1), (.ireturn, 1)]]
def xt85 : xTb := [[(.iload_n 1, 1), (.invokestatic 217, 3), (.athrow, 0), (.athrow, 0), (.ifCond .eq 21, 3), (.athrow, 0), (.athrow, 0), (.aload_n 0, 1)], [(.iload_n 2, 1), (.invokevirtual 90, 3), (.athrow, 0), (.athrow, 0), (.ifCond .eq 13, 3), (.athrow, 0), (.athrow, 0), (.iload_n 3, 1)], [(.ifCond .lt 9, 3), (.athrow, 0), (.athrow, 0), (.iload_n 3, 1), (.bipush 6, 2), (.athrow, 0), (.if_icmp .le 6, 3), (.athrow, 0)], [(.athrow, 0), (.bipush (-2), 2), (.athrow, 0), (.ireturn, 1), (.aload_n 0, 1), (.getfield 31, 3), (.athrow, 0), (.athrow, 0)], [(.iload_n 1, 1), (.aaload, 1), (.astore 4, 2), (.athrow, 0), (.aload 4, 2), (.athrow, 0), (.invokevirtual 220, 3), (.athrow, 0)], [(.athrow, 0), (.ifCond .eq 6, 3), (.athrow, 0), (.athrow, 0), (.bipush (-11), 2), (.athrow, 0), (.ireturn, 1), (.aload 4, 2)], [(.athrow, 0), (.getfield 224, 3), (.athrow, 0), (.athrow, 0), (.aload_n 0, 1), (.getfield 80, 3), (.athrow, 0), (.athrow, 0)], [(.getfield 195, 3), (.athrow, 0), (.athrow, 0), (.if_icmp .eq 6, 3), (.athrow, 0), (.athrow, 0), (.bipush (-2), 2), (.athrow, 0)], [(.ireturn, 1), (.iload_n 3, 1), (.lookupswitch 58 #[(0, 34), (5, 42), (6, 50)], 34), (.athrow, 0), (.athrow, 0), (.athrow, 0), (.athrow, 0), (.athrow, 0)], [(.athrow, 0), (.athrow, 0), (.athrow, 0), (.athrow, 0), (.athrow, 0), (.athrow, 0), (.athrow, 0), (.athrow, 0)], [(.athrow, 0), (.athrow, 0), (.athrow, 0), (.athrow, 0), (.athrow, 0), (.athrow, 0), (.athrow, 0), (.athrow, 0)], [(.athrow, 0), (.athrow, 0), (.athrow, 0), (.athrow, 0), (.athrow, 0), (.athrow, 0), (.athrow, 0), (.athrow, 0)], [(.athrow, 0), (.athrow, 0), (.athrow, 0), (.athrow, 0), (.aload_n 0, 1), (.aload 4, 2), (.athrow, 0), (.iload_n 2, 1)], [(.invokevirtual 225, 3), (.athrow, 0), (.athrow, 0), (.ireturn, 1), (.aload_n 0, 1), (.aload 4, 2), (.athrow, 0), (.iload_n 2, 1)], [(.invokevirtual 229, 3), (.athrow, 0), (.athrow, 0), (.ireturn, 1), (.aload_n 0, 1), (.aload 4, 2), (.athrow, 0), (.iload_n 2, 1)], [(.invokevirtual 232, 3), (.athrow, 0), (.athrow, 0), (.ireturn, 1), (.aload_n 0, 1), (.aload 4, 2), (.athrow, 0), (.iload_n 2, 1)], [(.iload_n 3, 1), (.invokevirtual 235, 3), (.athrow, 0), (.athrow, 0), (.ireturn, 1)]]
def xt86 : xTb := [[(.iload_n 1, 1), (.invokestatic 217, 3), (.athrow, 0), (.athrow, 0), (.ifCond .eq 11, 3), (.athrow, 0), (.athrow, 0), (.aload_n 0, 1)], [(.iload_n 2, 1), (.invokevirtual 90, 3), (.athrow, 0), (.athrow, 0), (.ifCond .ne 6, 3), (.athrow, 0), (.athrow, 0), (.bipush (-2), 2)], [(.athrow, 0), (.ireturn, 1), (.aload_n 0, 1), (.getfield 84, 3), (.athrow, 0), (.athrow, 0), (.aload_n 0, 1), (.getfield 80, 3)], [(.athrow, 0), (.athrow, 0), (.invokevirtual 186, 3), (.athrow, 0), (.athrow, 0), (.aload_n 0, 1), (.getfield 84, 3), (.athrow, 0)], [(.athrow, 0), (.invokevirtual 163, 3), (.athrow, 0), (.athrow, 0), (.aload_n 0, 1), (.getfield 31, 3), (.athrow, 0), (.athrow, 0)], [(.iload_n 1, 1), (.aaload, 1), (.astore_n 3, 1), (.aload_n 3, 1), (.iconst 0, 1), (.aload_n 0, 1), (.getfield 80, 3), (.athrow, 0)], [(.athrow, 0), (.getfield 195, 3), (.athrow, 0), (.athrow, 0), (.invokevirtual 239, 3), (.athrow, 0), (.athrow, 0), (.iconst 0, 1)], [(.istore 4, 2), (.athrow, 0), (.iload 4, 2), (.athrow, 0), (.aload_n 0, 1), (.getfield 80, 3), (.athrow, 0), (.athrow, 0)], [(.getfield 195, 3), (.athrow, 0), (.athrow, 0), (.if_icmp .ge 27, 3), (.athrow, 0), (.athrow, 0), (.aload_n 3, 1), (.iload 4, 2)], [(.athrow, 0), (.aload_n 0, 1), (.getfield 84, 3), (.athrow, 0), (.athrow, 0), (.getfield 123, 3), (.athrow, 0), (.athrow, 0)], [(.iload_n 2, 1), (.aaload, 1), (.iload 4, 2), (.athrow, 0), (.iaload, 1), (.invokevirtual 242, 3), (.athrow, 0), (.athrow, 0)], [(.iinc 4 1, 3), (.athrow, 0), (.athrow, 0), (.goto (-33), 3), (.athrow, 0), (.athrow, 0), (.aload_n 0, 1), (.getfield 80, 3)], [(.athrow, 0), (.athrow, 0), (.getfield 195, 3), (.athrow, 0), (.athrow, 0), (.ireturn, 1)]]
def xt87 : xTb := [[(.iload_n 2, 1), (.invokestatic 183, 3), (.athrow, 0), (.athrow, 0), (.ifCond .ne 6, 3), (.athrow, 0), (.athrow, 0), (.bipush (-2), 2)], [(.athrow, 0), (.ireturn, 1), (.aload_n 0, 1), (.iload_n 1, 1), (.iload_n 2, 1), (.invokevirtual 244, 3), (.athrow, 0), (.athrow, 0)], [(.ireturn, 1)]]
def xt88 : xTb := [[(.iload_n 2, 1), (.iconst 1, 1), (.if_icmp .lt 24, 3), (.athrow, 0), (.athrow, 0), (.iload_n 2, 1), (.bipush 20, 2), (.athrow, 0)], [(.if_icmp .gt 18, 3), (.athrow, 0), (.athrow, 0), (.iload_n 3, 1), (.invokestatic 192, 3), (.athrow, 0), (.athrow, 0), (.ifCond .eq 11, 3)], [(.athrow, 0), (.athrow, 0), (.iload 4, 2), (.athrow, 0), (.invokestatic 154, 3), (.athrow, 0), (.athrow, 0), (.ifCond .ne 7, 3)], [(.athrow, 0), (.athrow, 0), (.ldc2_w 247, 3), (.athrow, 0), (.athrow, 0), (.lreturn, 1), (.iconst 0, 1), (.istore 5, 2)], [(.athrow, 0), (.iconst 0, 1), (.istore 6, 2), (.athrow, 0), (.iload 6, 2), (.athrow, 0), (.iload_n 2, 1), (.if_icmp .ge 25, 3)], [(.athrow, 0), (.athrow, 0), (.aload_n 0, 1), (.iload_n 1, 1), (.iload 6, 2), (.athrow, 0), (.iadd, 1), (.iconst 3, 1)], [(.invokevirtual 244, 3), (.athrow, 0), (.athrow, 0), (.iload_n 3, 1), (.if_icmp .lt 6, 3), (.athrow, 0), (.athrow, 0), (.iinc 5 1, 3)], [(.athrow, 0), (.athrow, 0), (.iinc 6 1, 3), (.athrow, 0), (.athrow, 0), (.goto (-25), 3), (.athrow, 0), (.athrow, 0)], [(.iload 5, 2), (.athrow, 0), (.iload_n 2, 1), (.invokestatic 249, 3), (.athrow, 0), (.athrow, 0), (.istore 6, 2), (.athrow, 0)], [(.iload 4, 2), (.athrow, 0), (.ifCond .ne 8, 3), (.athrow, 0), (.athrow, 0), (.iload 5, 2), (.athrow, 0), (.goto 4, 3)], [(.athrow, 0), (.athrow, 0), (.iload_n 2, 1), (.iload 6, 2), (.athrow, 0), (.idiv, 1), (.i2l, 1), (.lreturn, 1)]]
def xt89 : xTb := [[(.aload_n 0, 1), (.getfield 87, 3), (.athrow, 0), (.athrow, 0), (.aload_n 0, 1), (.getfield 80, 3), (.athrow, 0), (.athrow, 0)], [(.invokevirtual 186, 3), (.athrow, 0), (.athrow, 0), (.aload_n 0, 1), (.iconst 1, 1), (.putfield 252, 3), (.athrow, 0), (.athrow, 0)], [(.aload_n 0, 1), (.getfield 80, 3), (.athrow, 0), (.athrow, 0), (.getfield 195, 3), (.athrow, 0), (.athrow, 0), (.ireturn, 1)]]
def xt90 : xTb := [[(.aload_n 0, 1), (.getfield 252, 3), (.athrow, 0), (.athrow, 0), (.ifCond .ne 6, 3), (.athrow, 0), (.athrow, 0), (.bipush (-3), 2)], [(.athrow, 0), (.ireturn, 1), (.aload_n 0, 1), (.getfield 80, 3), (.athrow, 0), (.athrow, 0), (.aload_n 0, 1), (.getfield 87, 3)], [(.athrow, 0), (.athrow, 0), (.invokevirtual 186, 3), (.athrow, 0), (.athrow, 0), (.aload_n 0, 1), (.getfield 80, 3), (.athrow, 0)], [(.athrow, 0), (.getfield 195, 3), (.athrow, 0), (.athrow, 0), (.ireturn, 1)]]
def xt91 : xTb := [[(.iload_n 1, 1), (.tableswitch 87 0 5 #[39, 47, 55, 63, 68, 76], 39), (.athrow, 0), (.athrow, 0), (.athrow, 0), (.athrow, 0), (.athrow, 0), (.athrow, 0)], [(.athrow, 0), (.athrow, 0), (.athrow, 0), (.athrow, 0), (.athrow, 0), (.athrow, 0), (.athrow, 0), (.athrow, 0)], [(.athrow, 0), (.athrow, 0), (.athrow, 0), (.athrow, 0), (.athrow, 0), (.athrow, 0), (.athrow, 0), (.athrow, 0)], [(.athrow, 0), (.athrow, 0), (.athrow, 0), (.athrow, 0), (.athrow, 0), (.athrow, 0), (.athrow, 0), (.athrow, 0)], [(.athrow, 0), (.athrow, 0), (.athrow, 0), (.athrow, 0), (.athrow, 0), (.athrow, 0), (.athrow, 0), (.athrow, 0)], [(.aload_n 0, 1), (.getfield 80, 3), (.athrow, 0), (.athrow, 0), (.getfield 195, 3), (.athrow, 0), (.athrow, 0), (.ireturn, 1)], [(.aload_n 0, 1), (.getfield 80, 3), (.athrow, 0), (.athrow, 0), (.invokevirtual 256, 3), (.athrow, 0), (.athrow, 0), (.ireturn, 1)], [(.aload_n 0, 1), (.getfield 80, 3), (.athrow, 0), (.athrow, 0), (.getfield 104, 3), (.athrow, 0), (.athrow, 0), (.ireturn, 1)], [(.aload_n 0, 1), (.getfield 71, 3), (.athrow, 0), (.athrow, 0), (.ireturn, 1), (.aload_n 0, 1), (.getfield 10, 3), (.athrow, 0)], [(.athrow, 0), (.getfield 144, 3), (.athrow, 0), (.athrow, 0), (.ireturn, 1), (.aload_n 0, 1), (.getfield 80, 3), (.athrow, 0)], [(.athrow, 0), (.getfield 147, 3), (.athrow, 0), (.athrow, 0), (.getfield 151, 3), (.athrow, 0), (.athrow, 0), (.ireturn, 1)], [(.bipush (-2), 2), (.athrow, 0), (.ireturn, 1)]]
def xt92 : xTb := [[(.iload_n 1, 1), (.invokestatic 217, 3), (.athrow, 0), (.athrow, 0), (.ifCond .eq 15, 3), (.athrow, 0), (.athrow, 0), (.iload_n 2, 1)], [(.iconst (-1), 1), (.if_icmp .eq 13, 3), (.athrow, 0), (.athrow, 0), (.iload_n 2, 1), (.invokestatic 259, 3), (.athrow, 0), (.athrow, 0)], [(.ifCond .ne 6, 3), (.athrow, 0), (.athrow, 0), (.bipush (-2), 2), (.athrow, 0), (.ireturn, 1), (.iload_n 2, 1), (.iconst (-1), 1)], [(.if_icmp .ne 16, 3), (.athrow, 0), (.athrow, 0), (.aload_n 0, 1), (.getfield 31, 3), (.athrow, 0), (.athrow, 0), (.iload_n 1, 1)], [(.aaload, 1), (.iconst (-1), 1), (.iconst 0, 1), (.invokevirtual 239, 3), (.athrow, 0), (.athrow, 0), (.iconst 1, 1), (.ireturn, 1)], [(.iload_n 3, 1), (.bipush 40, 2), (.athrow, 0), (.if_icmp .le 6, 3), (.athrow, 0), (.athrow, 0), (.bipush (-2), 2), (.athrow, 0)], [(.ireturn, 1), (.iload_n 3, 1), (.ifCond .ge 6, 3), (.athrow, 0), (.athrow, 0), (.bipush (-14), 2), (.athrow, 0), (.ireturn, 1)], [(.aload_n 0, 1), (.getfield 31, 3), (.athrow, 0), (.athrow, 0), (.iload_n 1, 1), (.aaload, 1), (.iload_n 2, 1), (.iload_n 3, 1)], [(.invokevirtual 239, 3), (.athrow, 0), (.athrow, 0), (.iconst 1, 1), (.ireturn, 1)]]
def xt93 : xTb := [[(.iload_n 1, 1), (.invokestatic 217, 3), (.athrow, 0), (.athrow, 0), (.ifCond .ne 6, 3), (.athrow, 0), (.athrow, 0), (.bipush (-2), 2)], [(.athrow, 0), (.ireturn, 1), (.aload_n 0, 1), (.getfield 31, 3), (.athrow, 0), (.athrow, 0), (.iload_n 1, 1), (.aaload, 1)], [(.astore 4, 2), (.athrow, 0), (.aload 4, 2), (.athrow, 0), (.invokevirtual 220, 3), (.athrow, 0), (.athrow, 0), (.ifCond .eq 6, 3)], [(.athrow, 0), (.athrow, 0), (.bipush (-11), 2), (.athrow, 0), (.ireturn, 1), (.aload 4, 2), (.athrow, 0), (.iload_n 2, 1)], [(.iconst 1, 1), (.invokevirtual 262, 3), (.athrow, 0), (.athrow, 0), (.ifCond .ne 6, 3), (.athrow, 0), (.athrow, 0), (.bipush (-12), 2)], [(.athrow, 0), (.ireturn, 1), (.aload 4, 2), (.athrow, 0), (.iload_n 2, 1), (.iload_n 3, 1), (.invokevirtual 242, 3), (.athrow, 0)], [(.athrow, 0), (.iconst 1, 1), (.ireturn, 1)]]
def xt94 : xTb := [[(.iload_n 1, 1), (.invokestatic 217, 3), (.athrow, 0), (.athrow, 0), (.ifCond .eq 10, 3), (.athrow, 0), (.athrow, 0), (.iload_n 3, 1)], [(.invokestatic 217, 3), (.athrow, 0), (.athrow, 0), (.ifCond .ne 6, 3), (.athrow, 0), (.athrow, 0), (.bipush (-2), 2), (.athrow, 0)], [(.ireturn, 1), (.aload_n 0, 1), (.getfield 31, 3), (.athrow, 0), (.athrow, 0), (.iload_n 1, 1), (.aaload, 1), (.astore 6, 2)], [(.athrow, 0), (.aload_n 0, 1), (.getfield 31, 3), (.athrow, 0), (.athrow, 0), (.iload_n 3, 1), (.aaload, 1), (.astore 7, 2)], [(.athrow, 0), (.aload 6, 2), (.athrow, 0), (.invokevirtual 220, 3), (.athrow, 0), (.athrow, 0), (.ifCond .ne 11, 3), (.athrow, 0)], [(.athrow, 0), (.aload 7, 2), (.athrow, 0), (.invokevirtual 220, 3), (.athrow, 0), (.athrow, 0), (.ifCond .eq 6, 3), (.athrow, 0)], [(.athrow, 0), (.bipush (-11), 2), (.athrow, 0), (.ireturn, 1), (.aload 6, 2), (.athrow, 0), (.getfield 265, 3), (.athrow, 0)], [(.athrow, 0), (.aload 7, 2), (.athrow, 0), (.getfield 265, 3), (.athrow, 0), (.athrow, 0), (.if_icmp .eq 6, 3), (.athrow, 0)], [(.athrow, 0), (.bipush (-13), 2), (.athrow, 0), (.ireturn, 1), (.aload 6, 2), (.athrow, 0), (.iload_n 2, 1), (.iload 5, 2)], [(.athrow, 0), (.invokevirtual 262, 3), (.athrow, 0), (.athrow, 0), (.ifCond .eq 15, 3), (.athrow, 0), (.athrow, 0), (.aload 7, 2)], [(.athrow, 0), (.iload 4, 2), (.athrow, 0), (.iload 5, 2), (.athrow, 0), (.invokevirtual 262, 3), (.athrow, 0), (.athrow, 0)], [(.ifCond .ne 6, 3), (.athrow, 0), (.athrow, 0), (.bipush (-12), 2), (.athrow, 0), (.ireturn, 1), (.aload 6, 2), (.athrow, 0)], [(.getfield 268, 3), (.athrow, 0), (.athrow, 0), (.iload_n 2, 1), (.aload 7, 2), (.athrow, 0), (.getfield 268, 3), (.athrow, 0)], [(.athrow, 0), (.iload 4, 2), (.athrow, 0), (.iload 5, 2), (.athrow, 0), (.invokestatic 271, 3), (.athrow, 0), (.athrow, 0)], [(.iload 5, 2), (.athrow, 0), (.ireturn, 1)]]
def xt95 : xTb := [[(.iload_n 1, 1), (.invokestatic 217, 3), (.athrow, 0), (.athrow, 0), (.ifCond .eq 22, 3), (.athrow, 0), (.athrow, 0), (.iload_n 2, 1)], [(.invokestatic 259, 3), (.athrow, 0), (.athrow, 0), (.ifCond .eq 15, 3), (.athrow, 0), (.athrow, 0), (.iload 4, 2), (.athrow, 0)], [(.ifCond .lt 10, 3), (.athrow, 0), (.athrow, 0), (.iload 4, 2), (.athrow, 0), (.bipush 8, 2), (.athrow, 0), (.if_icmp .le 6, 3)], [(.athrow, 0), (.athrow, 0), (.bipush (-2), 2), (.athrow, 0), (.ireturn, 1), (.aload_n 0, 1), (.getfield 31, 3), (.athrow, 0)], [(.athrow, 0), (.iload_n 1, 1), (.aaload, 1), (.astore 5, 2), (.athrow, 0), (.aload 5, 2), (.athrow, 0), (.invokevirtual 220, 3)], [(.athrow, 0), (.athrow, 0), (.ifCond .ne 15, 3), (.athrow, 0), (.athrow, 0), (.aload 5, 2), (.athrow, 0), (.getfield 265, 3)], [(.athrow, 0), (.athrow, 0), (.iload_n 2, 1), (.if_icmp .eq 6, 3), (.athrow, 0), (.athrow, 0), (.bipush (-13), 2), (.athrow, 0)], [(.ireturn, 1), (.aload 5, 2), (.athrow, 0), (.invokevirtual 220, 3), (.athrow, 0), (.athrow, 0), (.ifCond .eq 6, 3), (.athrow, 0)], [(.athrow, 0), (.bipush (-11), 2), (.athrow, 0), (.ireturn, 1), (.iconst 0, 1), (.istore 6, 2), (.athrow, 0), (.iconst 0, 1)], [(.istore 7, 2), (.athrow, 0), (.iload 7, 2), (.athrow, 0), (.iload 4, 2), (.athrow, 0), (.if_icmp .ge 59, 3), (.athrow, 0)], [(.athrow, 0), (.iload_n 3, 1), (.iconst 2, 1), (.iload 7, 2), (.athrow, 0), (.imul, 1), (.iadd, 1), (.istore 8, 2)], [(.athrow, 0), (.aload 5, 2), (.athrow, 0), (.iload 8, 2), (.athrow, 0), (.iconst 2, 1), (.invokevirtual 262, 3), (.athrow, 0)], [(.athrow, 0), (.ifCond .ne 6, 3), (.athrow, 0), (.athrow, 0), (.bipush (-12), 2), (.athrow, 0), (.ireturn, 1), (.aload_n 0, 1)], [(.aload 5, 2), (.athrow, 0), (.getfield 268, 3), (.athrow, 0), (.athrow, 0), (.iload 8, 2), (.athrow, 0), (.iaload, 1)], [(.aload 5, 2), (.athrow, 0), (.getfield 268, 3), (.athrow, 0), (.athrow, 0), (.iload 8, 2), (.athrow, 0), (.iconst 1, 1)], [(.iadd, 1), (.iaload, 1), (.invokevirtual 116, 3), (.athrow, 0), (.athrow, 0), (.ifCond .lt 6, 3), (.athrow, 0), (.athrow, 0)], [(.iinc 6 1, 3), (.athrow, 0), (.athrow, 0), (.iinc 7 1, 3), (.athrow, 0), (.athrow, 0), (.goto (-60), 3), (.athrow, 0)], [(.athrow, 0), (.iload 6, 2), (.athrow, 0), (.ireturn, 1)]]
def xt96 : xTb := [[(.iload_n 2, 1), (.ifCond .lt 9, 3), (.athrow, 0), (.athrow, 0), (.iload_n 2, 1), (.bipush 6, 2), (.athrow, 0), (.if_icmp .lt 6, 3)], [(.athrow, 0), (.athrow, 0), (.bipush (-2), 2), (.athrow, 0), (.ireturn, 1), (.aload_n 0, 1), (.iload_n 1, 1), (.invokevirtual 90, 3)], [(.athrow, 0), (.athrow, 0), (.ifCond .ne 6, 3), (.athrow, 0), (.athrow, 0), (.bipush (-11), 2), (.athrow, 0), (.ireturn, 1)], [(.aload_n 0, 1), (.getfield 80, 3), (.athrow, 0), (.athrow, 0), (.getfield 131, 3), (.athrow, 0), (.athrow, 0), (.iload_n 1, 1)], [(.iaload, 1), (.iload_n 2, 1), (.invokestatic 277, 3), (.athrow, 0), (.athrow, 0), (.ifCond .eq 15, 3), (.athrow, 0), (.athrow, 0)], [(.aload_n 0, 1), (.getfield 80, 3), (.athrow, 0), (.athrow, 0), (.getfield 110, 3), (.athrow, 0), (.athrow, 0), (.iload_n 1, 1)], [(.iaload, 1), (.goto 5, 3), (.athrow, 0), (.athrow, 0), (.bipush (-13), 2), (.athrow, 0), (.ireturn, 1)]]
def xt97 : xTb := [[(.iload_n 1, 1), (.ifCond .lt 18, 3), (.athrow, 0), (.athrow, 0), (.iload_n 1, 1), (.aload_n 0, 1), (.getfield 80, 3), (.athrow, 0)], [(.athrow, 0), (.getfield 195, 3), (.athrow, 0), (.athrow, 0), (.if_icmp .ge 7, 3), (.athrow, 0), (.athrow, 0), (.iconst 1, 1)], [(.goto 4, 3), (.athrow, 0), (.athrow, 0), (.iconst 0, 1), (.ireturn, 1)]]
def xt98 : xTb := [[(.aload_n 0, 1), (.iload_n 1, 1), (.invokevirtual 90, 3), (.athrow, 0), (.athrow, 0), (.ifCond .eq 20, 3), (.athrow, 0), (.athrow, 0)], [(.aload_n 0, 1), (.iload_n 2, 1), (.invokevirtual 90, 3), (.athrow, 0), (.athrow, 0), (.ifCond .eq 12, 3), (.athrow, 0), (.athrow, 0)], [(.iload_n 1, 1), (.iload_n 2, 1), (.if_icmp .eq 7, 3), (.athrow, 0), (.athrow, 0), (.iconst 1, 1), (.goto 4, 3), (.athrow, 0)], [(.athrow, 0), (.iconst 0, 1), (.ireturn, 1)]]
def xt99 : xTb := [[(.iload_n 0, 1), (.ifCond .lt 12, 3), (.athrow, 0), (.athrow, 0), (.iload_n 0, 1), (.iconst 4, 1), (.if_icmp .ge 7, 3), (.athrow, 0)], [(.athrow, 0), (.iconst 1, 1), (.goto 4, 3), (.athrow, 0), (.athrow, 0), (.iconst 0, 1), (.ireturn, 1)]]
def xt100 : xTb := [[(.iload_n 0, 1), (.ifCond .lt 12, 3), (.athrow, 0), (.athrow, 0), (.iload_n 0, 1), (.iconst 3, 1), (.if_icmp .ge 7, 3), (.athrow, 0)], [(.athrow, 0), (.iconst 1, 1), (.goto 4, 3), (.athrow, 0), (.athrow, 0), (.iconst 0, 1), (.ireturn, 1)]]
def xt101 : xTb := [[(.iload_n 0, 1), (.ifCond .lt 13, 3), (.athrow, 0), (.athrow, 0), (.iload_n 0, 1), (.bipush 20, 2), (.athrow, 0), (.if_icmp .gt 7, 3)], [(.athrow, 0), (.athrow, 0), (.iconst 1, 1), (.goto 4, 3), (.athrow, 0), (.athrow, 0), (.iconst 0, 1), (.ireturn, 1)]]
def xt102 : xTb := [[(.iload_n 0, 1), (.ifCond .lt 13, 3), (.athrow, 0), (.athrow, 0), (.iload_n 0, 1), (.bipush 28, 2), (.athrow, 0), (.if_icmp .gt 7, 3)], [(.athrow, 0), (.athrow, 0), (.iconst 1, 1), (.goto 4, 3), (.athrow, 0), (.athrow, 0), (.iconst 0, 1), (.ireturn, 1)]]
def xt103 : xTb := [[(.iload_n 0, 1), (.ifCond .eq 8, 3), (.athrow, 0), (.athrow, 0), (.iload_n 0, 1), (.iconst 1, 1), (.if_icmp .ne 7, 3), (.athrow, 0)], [(.athrow, 0), (.iconst 1, 1), (.goto 4, 3), (.athrow, 0), (.athrow, 0), (.iconst 0, 1), (.ireturn, 1)]]
def xt104 : xTb := [[(.iload_n 0, 1), (.istore_n 2, 1), (.iconst 0, 1), (.istore_n 3, 1), (.iload_n 3, 1), (.bipush 6, 2), (.athrow, 0), (.if_icmp .ge 32, 3)], [(.athrow, 0), (.athrow, 0), (.iload_n 2, 1), (.ifCond .lt 28, 3), (.athrow, 0), (.athrow, 0), (.iload_n 2, 1), (.bipush 6, 2)], [(.athrow, 0), (.if_icmp .ge 22, 3), (.athrow, 0), (.athrow, 0), (.iload_n 2, 1), (.iload_n 1, 1), (.if_icmp .ne 5, 3), (.athrow, 0)], [(.athrow, 0), (.iconst 1, 1), (.ireturn, 1), (.getstatic 280, 3), (.athrow, 0), (.athrow, 0), (.iload_n 2, 1), (.iaload, 1)], [(.istore_n 2, 1), (.iinc 3 1, 3), (.athrow, 0), (.athrow, 0), (.goto (-32), 3), (.athrow, 0), (.athrow, 0), (.iconst 0, 1)], [(.ireturn, 1)]]
def xt105 : xTb := [[(.iload_n 1, 1), (.tableswitch 53 0 2 #[27, 35, 43], 27), (.athrow, 0), (.athrow, 0), (.athrow, 0), (.athrow, 0), (.athrow, 0), (.athrow, 0)], [(.athrow, 0), (.athrow, 0), (.athrow, 0), (.athrow, 0), (.athrow, 0), (.athrow, 0), (.athrow, 0), (.athrow, 0)], [(.athrow, 0), (.athrow, 0), (.athrow, 0), (.athrow, 0), (.athrow, 0), (.athrow, 0), (.athrow, 0), (.athrow, 0)], [(.athrow, 0), (.athrow, 0), (.athrow, 0), (.athrow, 0), (.aload_n 0, 1), (.getfield 80, 3), (.athrow, 0), (.athrow, 0)], [(.getfield 104, 3), (.athrow, 0), (.athrow, 0), (.ireturn, 1), (.aload_n 0, 1), (.getfield 80, 3), (.athrow, 0), (.athrow, 0)], [(.getfield 107, 3), (.athrow, 0), (.athrow, 0), (.ireturn, 1), (.aload_n 0, 1), (.getfield 80, 3), (.athrow, 0), (.athrow, 0)], [(.getfield 110, 3), (.athrow, 0), (.athrow, 0), (.iload_n 2, 1), (.iaload, 1), (.ireturn, 1), (.aload_n 0, 1), (.getfield 80, 3)], [(.athrow, 0), (.athrow, 0), (.getfield 113, 3), (.athrow, 0), (.athrow, 0), (.iload_n 2, 1), (.iaload, 1), (.ireturn, 1)]]
def xt106 : xTb := [[(.iload_n 1, 1), (.ifCond .lt 19, 3), (.athrow, 0), (.athrow, 0), (.iload_n 1, 1), (.bipush 6, 2), (.athrow, 0), (.if_icmp .ge 13, 3)], [(.athrow, 0), (.athrow, 0), (.iload_n 2, 1), (.ifCond .lt 9, 3), (.athrow, 0), (.athrow, 0), (.iload_n 2, 1), (.bipush 10, 2)], [(.athrow, 0), (.if_icmp .lt 6, 3), (.athrow, 0), (.athrow, 0), (.bipush (-2), 2), (.athrow, 0), (.ireturn, 1), (.aload_n 0, 1)], [(.getfield 80, 3), (.athrow, 0), (.athrow, 0), (.getfield 195, 3), (.athrow, 0), (.athrow, 0), (.bipush 8, 2), (.athrow, 0)], [(.if_icmp .lt 6, 3), (.athrow, 0), (.athrow, 0), (.bipush (-4), 2), (.athrow, 0), (.ireturn, 1), (.aload_n 0, 1), (.getfield 80, 3)], [(.athrow, 0), (.athrow, 0), (.iload_n 1, 1), (.iload_n 2, 1), (.invokevirtual 283, 3), (.athrow, 0), (.athrow, 0), (.aload_n 0, 1)], [(.getfield 80, 3), (.athrow, 0), (.athrow, 0), (.getfield 195, 3), (.athrow, 0), (.athrow, 0), (.iconst 1, 1), (.isub, 1)], [(.ireturn, 1)]]
def xt107 : xTb := [[(.aload_n 0, 1), (.getfield 25, 3), (.athrow, 0), (.athrow, 0), (.aload_n 1, 1), (.invokevirtual 176, 3), (.athrow, 0), (.athrow, 0)], [(.iload_n 2, 1), (.tableswitch 77 0 4 #[35, 40, 55, 63, 68], 35), (.athrow, 0), (.athrow, 0), (.athrow, 0), (.athrow, 0), (.athrow, 0), (.athrow, 0)], [(.athrow, 0), (.athrow, 0), (.athrow, 0), (.athrow, 0), (.athrow, 0), (.athrow, 0), (.athrow, 0), (.athrow, 0)], [(.athrow, 0), (.athrow, 0), (.athrow, 0), (.athrow, 0), (.athrow, 0), (.athrow, 0), (.athrow, 0), (.athrow, 0)], [(.athrow, 0), (.athrow, 0), (.athrow, 0), (.athrow, 0), (.athrow, 0), (.athrow, 0), (.athrow, 0), (.athrow, 0)], [(.athrow, 0), (.athrow, 0), (.athrow, 0), (.athrow, 0), (.aload_n 1, 1), (.invokevirtual 166, 3), (.athrow, 0), (.athrow, 0)], [(.ireturn, 1), (.aload_n 0, 1), (.getfield 25, 3), (.athrow, 0), (.athrow, 0), (.aload_n 0, 1), (.getfield 25, 3), (.athrow, 0)], [(.athrow, 0), (.invokevirtual 201, 3), (.athrow, 0), (.athrow, 0), (.invokevirtual 204, 3), (.athrow, 0), (.athrow, 0), (.ireturn, 1)], [(.aload_n 0, 1), (.getfield 25, 3), (.athrow, 0), (.athrow, 0), (.invokevirtual 286, 3), (.athrow, 0), (.athrow, 0), (.ireturn, 1)], [(.aload_n 1, 1), (.invokevirtual 289, 3), (.athrow, 0), (.athrow, 0), (.ireturn, 1), (.aload_n 0, 1), (.getfield 25, 3), (.athrow, 0)], [(.athrow, 0), (.iconst 0, 1), (.invokevirtual 207, 3), (.athrow, 0), (.athrow, 0), (.ireturn, 1), (.aload_n 1, 1), (.invokevirtual 292, 3)], [(.athrow, 0), (.athrow, 0), (.ireturn, 1)]]
def xt108 : xTb := [[(.aload_n 0, 1), (.getfield 80, 3), (.athrow, 0), (.athrow, 0), (.getfield 113, 3), (.athrow, 0), (.athrow, 0), (.iload_n 1, 1)], [(.iaload, 1), (.istore_n 3, 1), (.aload_n 0, 1), (.getfield 80, 3), (.athrow, 0), (.athrow, 0), (.getfield 113, 3), (.athrow, 0)], [(.athrow, 0), (.iload_n 2, 1), (.iaload, 1), (.istore 4, 2), (.athrow, 0), (.iload_n 3, 1), (.iconst (-1), 1), (.if_icmp .eq 19, 3)], [(.athrow, 0), (.athrow, 0), (.iload 4, 2), (.athrow, 0), (.iconst (-1), 1), (.if_icmp .eq 13, 3), (.athrow, 0), (.athrow, 0)], [(.iload_n 3, 1), (.iload 4, 2), (.athrow, 0), (.if_icmp .eq 7, 3), (.athrow, 0), (.athrow, 0), (.iconst 1, 1), (.goto 4, 3)], [(.athrow, 0), (.athrow, 0), (.iconst 0, 1), (.ireturn, 1)]]
def xt109 : xTb := [[(.aload_n 0, 1), (.getfield 84, 3), (.athrow, 0), (.athrow, 0), (.aload_n 0, 1), (.getfield 80, 3), (.athrow, 0), (.athrow, 0)], [(.invokevirtual 186, 3), (.athrow, 0), (.athrow, 0), (.iload_n 1, 1), (.istore_n 3, 1), (.iconst 0, 1), (.istore 4, 2), (.athrow, 0)], [(.iload 4, 2), (.athrow, 0), (.aload_n 0, 1), (.getfield 80, 3), (.athrow, 0), (.athrow, 0), (.getfield 195, 3), (.athrow, 0)], [(.athrow, 0), (.if_icmp .ge 35, 3), (.athrow, 0), (.athrow, 0), (.iload_n 3, 1), (.ldc_w 295, 3), (.athrow, 0), (.athrow, 0)], [(.imul, 1), (.sipush 12345, 3), (.athrow, 0), (.athrow, 0), (.iadd, 1), (.istore_n 3, 1), (.aload_n 0, 1), (.getfield 84, 3)], [(.athrow, 0), (.athrow, 0), (.getfield 113, 3), (.athrow, 0), (.athrow, 0), (.iload 4, 2), (.athrow, 0), (.iload_n 3, 1)], [(.bipush 9, 2), (.athrow, 0), (.iushr, 1), (.iconst 4, 1), (.irem, 1), (.iastore, 1), (.iinc 4 1, 3), (.athrow, 0)], [(.athrow, 0), (.goto (-41), 3), (.athrow, 0), (.athrow, 0), (.aload_n 0, 1), (.getfield 84, 3), (.athrow, 0), (.athrow, 0)], [(.iload_n 2, 1), (.invokevirtual 189, 3), (.athrow, 0), (.athrow, 0), (.ireturn, 1)]]
def xt110 : xTb := [[(.iload_n 1, 1), (.istore_n 2, 1), (.iload_n 0, 1), (.istore_n 3, 1), (.iconst 0, 1), (.istore 4, 2), (.athrow, 0), (.iload 4, 2)], [(.athrow, 0), (.bipush 20, 2), (.athrow, 0), (.if_icmp .ge 23, 3), (.athrow, 0), (.athrow, 0), (.iload_n 3, 1), (.ifCond .le 19, 3)], [(.athrow, 0), (.athrow, 0), (.iload_n 2, 1), (.iload_n 3, 1), (.irem, 1), (.istore 5, 2), (.athrow, 0), (.iload_n 3, 1)], [(.istore_n 2, 1), (.iload 5, 2), (.athrow, 0), (.istore_n 3, 1), (.iinc 4 1, 3), (.athrow, 0), (.athrow, 0), (.goto (-24), 3)], [(.athrow, 0), (.athrow, 0), (.iconst 1, 1), (.iload_n 2, 1), (.invokestatic 296, 3), (.athrow, 0), (.athrow, 0), (.ireturn, 1)]]
def xt111 : xTb := [[(.aload_n 0, 1), (.getfield 84, 3), (.athrow, 0), (.athrow, 0), (.aload_n 0, 1), (.getfield 80, 3), (.athrow, 0), (.athrow, 0)], [(.invokevirtual 186, 3), (.athrow, 0), (.athrow, 0), (.aload_n 0, 1), (.getfield 84, 3), (.athrow, 0), (.athrow, 0), (.invokevirtual 163, 3)], [(.athrow, 0), (.athrow, 0), (.aload_n 1, 1), (.aload_n 0, 1), (.getfield 84, 3), (.athrow, 0), (.athrow, 0), (.getfield 123, 3)], [(.athrow, 0), (.athrow, 0), (.iload_n 2, 1), (.aaload, 1), (.invokevirtual 301, 3), (.athrow, 0), (.athrow, 0), (.ireturn, 1)]]
def xt112 : xTb := [[(.iconst 0, 1), (.istore 4, 2), (.athrow, 0), (.aload_n 0, 1), (.iload_n 3, 1), (.invokevirtual 305, 3), (.athrow, 0), (.athrow, 0)], [(.istore 5, 2), (.athrow, 0), (.iconst 0, 1), (.istore 6, 2), (.athrow, 0), (.iload 6, 2), (.athrow, 0), (.iload 5, 2)], [(.athrow, 0), (.if_icmp .ge 60, 3), (.athrow, 0), (.athrow, 0), (.aload_n 0, 1), (.getfield 84, 3), (.athrow, 0), (.athrow, 0)], [(.aload_n 0, 1), (.getfield 80, 3), (.athrow, 0), (.athrow, 0), (.invokevirtual 186, 3), (.athrow, 0), (.athrow, 0), (.aload_n 0, 1)], [(.iload_n 2, 1), (.iload_n 3, 1), (.iload 6, 2), (.athrow, 0), (.invokevirtual 308, 3), (.athrow, 0), (.athrow, 0), (.aload_n 0, 1)], [(.getfield 84, 3), (.athrow, 0), (.athrow, 0), (.invokevirtual 163, 3), (.athrow, 0), (.athrow, 0), (.aload_n 1, 1), (.aload_n 0, 1)], [(.getfield 84, 3), (.athrow, 0), (.athrow, 0), (.getfield 123, 3), (.athrow, 0), (.athrow, 0), (.iload_n 2, 1), (.aaload, 1)], [(.invokevirtual 301, 3), (.athrow, 0), (.athrow, 0), (.ifCond .ne 12, 3), (.athrow, 0), (.athrow, 0), (.iload 4, 2), (.athrow, 0)], [(.iconst 1, 1), (.iload 6, 2), (.athrow, 0), (.ishl, 1), (.ior, 1), (.istore 4, 2), (.athrow, 0), (.iinc 6 1, 3)], [(.athrow, 0), (.athrow, 0), (.goto (-61), 3), (.athrow, 0), (.athrow, 0), (.iload 4, 2), (.athrow, 0), (.ireturn, 1)]]
def xt113 : xTb := [[(.iload_n 1, 1), (.tableswitch 35 1 3 #[27, 30, 33], 27), (.athrow, 0), (.athrow, 0), (.athrow, 0), (.athrow, 0), (.athrow, 0), (.athrow, 0)], [(.athrow, 0), (.athrow, 0), (.athrow, 0), (.athrow, 0), (.athrow, 0), (.athrow, 0), (.athrow, 0), (.athrow, 0)], [(.athrow, 0), (.athrow, 0), (.athrow, 0), (.athrow, 0), (.athrow, 0), (.athrow, 0), (.athrow, 0), (.athrow, 0)], [(.athrow, 0), (.athrow, 0), (.athrow, 0), (.athrow, 0), (.bipush 6, 2), (.athrow, 0), (.ireturn, 1), (.bipush 10, 2)], [(.athrow, 0), (.ireturn, 1), (.iconst 4, 1), (.ireturn, 1), (.aload_n 0, 1), (.getfield 71, 3), (.athrow, 0), (.athrow, 0)], [(.ireturn, 1)]]
def xt114 : xTb := [[(.iload_n 2, 1), (.tableswitch 66 1 3 #[27, 40, 53], 27), (.athrow, 0), (.athrow, 0), (.athrow, 0), (.athrow, 0), (.athrow, 0), (.athrow, 0)], [(.athrow, 0), (.athrow, 0), (.athrow, 0), (.athrow, 0), (.athrow, 0), (.athrow, 0), (.athrow, 0), (.athrow, 0)], [(.athrow, 0), (.athrow, 0), (.athrow, 0), (.athrow, 0), (.athrow, 0), (.athrow, 0), (.athrow, 0), (.athrow, 0)], [(.athrow, 0), (.athrow, 0), (.athrow, 0), (.athrow, 0), (.aload_n 0, 1), (.getfield 84, 3), (.athrow, 0), (.athrow, 0)], [(.getfield 131, 3), (.athrow, 0), (.athrow, 0), (.iload_n 1, 1), (.iload_n 3, 1), (.iastore, 1), (.goto 42, 3), (.athrow, 0)], [(.athrow, 0), (.aload_n 0, 1), (.getfield 84, 3), (.athrow, 0), (.athrow, 0), (.getfield 110, 3), (.athrow, 0), (.athrow, 0)], [(.iload_n 1, 1), (.iload_n 3, 1), (.iastore, 1), (.goto 29, 3), (.athrow, 0), (.athrow, 0), (.aload_n 0, 1), (.getfield 84, 3)], [(.athrow, 0), (.athrow, 0), (.getfield 113, 3), (.athrow, 0), (.athrow, 0), (.iload_n 1, 1), (.iload_n 3, 1), (.iastore, 1)], [(.goto 16, 3), (.athrow, 0), (.athrow, 0), (.aload_n 0, 1), (.getfield 84, 3), (.athrow, 0), (.athrow, 0), (.aload_n 0, 1)], [(.getfield 18, 3), (.athrow, 0), (.athrow, 0), (.iload_n 3, 1), (.aaload, 1), (.putfield 147, 3), (.athrow, 0), (.athrow, 0)], [(.return_, 1)]]
def xt115 : xTb := [[(.iconst 0, 1), (.istore_n 3, 1), (.iconst 1, 1), (.istore 4, 2), (.athrow, 0), (.iload 4, 2), (.athrow, 0), (.bipush 99, 2)], [(.athrow, 0), (.if_icmp .gt 23, 3), (.athrow, 0), (.athrow, 0), (.aload_n 0, 1), (.aload_n 1, 1), (.iload_n 2, 1), (.iload 4, 2)], [(.athrow, 0), (.invokevirtual 311, 3), (.athrow, 0), (.athrow, 0), (.ifCond .eq 6, 3), (.athrow, 0), (.athrow, 0), (.iinc 3 1, 3)], [(.athrow, 0), (.athrow, 0), (.iinc 4 1, 3), (.athrow, 0), (.athrow, 0), (.goto (-24), 3), (.athrow, 0), (.athrow, 0)], [(.iload_n 3, 1), (.ireturn, 1)]]
def xt116 : xTb := [[(.iconst 1, 1), (.istore_n 3, 1), (.iload_n 3, 1), (.bipush 99, 2), (.athrow, 0), (.if_icmp .gt 21, 3), (.athrow, 0), (.athrow, 0)], [(.aload_n 0, 1), (.aload_n 1, 1), (.iload_n 2, 1), (.iload_n 3, 1), (.invokevirtual 311, 3), (.athrow, 0), (.athrow, 0), (.ifCond .eq 5, 3)], [(.athrow, 0), (.athrow, 0), (.iload_n 3, 1), (.ireturn, 1), (.iinc 3 1, 3), (.athrow, 0), (.athrow, 0), (.goto (-21), 3)], [(.athrow, 0), (.athrow, 0), (.iconst (-1), 1), (.ireturn, 1)]]
def xt117 : xTb := [[(.iconst 0, 1), (.istore 4, 2), (.athrow, 0), (.iload 4, 2), (.athrow, 0), (.aload_n 0, 1), (.getfield 80, 3), (.athrow, 0)], [(.athrow, 0), (.getfield 195, 3), (.athrow, 0), (.athrow, 0), (.if_icmp .ge 56, 3), (.athrow, 0), (.athrow, 0), (.aload_n 0, 1)], [(.getfield 80, 3), (.athrow, 0), (.athrow, 0), (.getfield 123, 3), (.athrow, 0), (.athrow, 0), (.iload_n 2, 1), (.aaload, 1)], [(.iload 4, 2), (.athrow, 0), (.iaload, 1), (.iload_n 3, 1), (.if_icmp .lt 7, 3), (.athrow, 0), (.athrow, 0), (.iconst 1, 1)], [(.goto 4, 3), (.athrow, 0), (.athrow, 0), (.iconst 0, 1), (.istore 5, 2), (.athrow, 0), (.iload 5, 2), (.athrow, 0)], [(.aload_n 1, 1), (.getfield 268, 3), (.athrow, 0), (.athrow, 0), (.iload 4, 2), (.athrow, 0), (.iaload, 1), (.bipush 20, 2)], [(.athrow, 0), (.if_icmp .lt 7, 3), (.athrow, 0), (.athrow, 0), (.iconst 1, 1), (.goto 4, 3), (.athrow, 0), (.athrow, 0)], [(.iconst 0, 1), (.if_icmp .eq 5, 3), (.athrow, 0), (.athrow, 0), (.iconst 0, 1), (.ireturn, 1), (.iinc 4 1, 3), (.athrow, 0)], [(.athrow, 0), (.goto (-62), 3), (.athrow, 0), (.athrow, 0), (.iconst 1, 1), (.ireturn, 1)]]
def xt118 : xTb := [[(.lload_n 0, 1), (.lload_n 2, 1), (.lcmp, 1), (.ifCond .lt 14, 3), (.athrow, 0), (.athrow, 0), (.lload_n 0, 1), (.lload 4, 2)], [(.athrow, 0), (.lcmp, 1), (.ifCond .gt 7, 3), (.athrow, 0), (.athrow, 0), (.iconst 1, 1), (.goto 4, 3), (.athrow, 0)], [(.athrow, 0), (.iconst 0, 1), (.ireturn, 1)]]
def xt119 : xTb := [[(.iload_n 0, 1), (.iload_n 1, 1), (.if_icmp .ge 7, 3), (.athrow, 0), (.athrow, 0), (.iload_n 1, 1), (.goto 13, 3), (.athrow, 0)], [(.athrow, 0), (.iload_n 0, 1), (.iload_n 2, 1), (.if_icmp .le 7, 3), (.athrow, 0), (.athrow, 0), (.iload_n 2, 1), (.goto 4, 3)], [(.athrow, 0), (.athrow, 0), (.iload_n 0, 1), (.ireturn, 1)]]
def xt120 : xTb := [[(.aload_n 0, 1), (.invokespecial 7, 3), (.athrow, 0), (.athrow, 0), (.aload_n 0, 1), (.sipush 960, 3), (.athrow, 0), (.athrow, 0)], [(.newarray .int, 2), (.athrow, 0), (.putfield 13, 3), (.athrow, 0), (.athrow, 0), (.aload_n 0, 1), (.bipush 6, 2), (.athrow, 0)], [(.newarray .int, 2), (.athrow, 0), (.putfield 17, 3), (.athrow, 0), (.athrow, 0), (.aload_n 0, 1), (.sipush 160, 3), (.athrow, 0)], [(.athrow, 0), (.newarray .int, 2), (.athrow, 0), (.putfield 20, 3), (.athrow, 0), (.athrow, 0), (.aload_n 0, 1), (.bipush 20, 2)], [(.athrow, 0), (.putfield 23, 3), (.athrow, 0), (.athrow, 0), (.aload_n 0, 1), (.bipush 8, 2), (.athrow, 0), (.newarray .int, 2)], [(.athrow, 0), (.putfield 26, 3), (.athrow, 0), (.athrow, 0), (.aload_n 0, 1), (.bipush 8, 2), (.athrow, 0), (.newarray .int, 2)], [(.athrow, 0), (.putfield 29, 3), (.athrow, 0), (.athrow, 0), (.aload_n 0, 1), (.bipush 8, 2), (.athrow, 0), (.newarray .int, 2)], [(.athrow, 0), (.putfield 32, 3), (.athrow, 0), (.athrow, 0), (.aload_n 0, 1), (.bipush 64, 2), (.athrow, 0), (.newarray .int, 2)], [(.athrow, 0), (.putfield 35, 3), (.athrow, 0), (.athrow, 0), (.aload_n 0, 1), (.iconst (-1), 1), (.putfield 38, 3), (.athrow, 0)], [(.athrow, 0), (.aload_n 0, 1), (.iconst (-1), 1), (.putfield 41, 3), (.athrow, 0), (.athrow, 0), (.aload_n 0, 1), (.iconst (-1), 1)], [(.putfield 44, 3), (.athrow, 0), (.athrow, 0), (.aload_n 0, 1), (.bipush 64, 2), (.athrow, 0), (.newarray .int, 2), (.athrow, 0)], [(.putfield 47, 3), (.athrow, 0), (.athrow, 0), (.aload_n 0, 1), (.bipush 64, 2), (.athrow, 0), (.newarray .int, 2), (.athrow, 0)], [(.putfield 50, 3), (.athrow, 0), (.athrow, 0), (.aload_n 0, 1), (.bipush 8, 2), (.athrow, 0), (.newarray .int, 2), (.athrow, 0)], [(.putfield 53, 3), (.athrow, 0), (.athrow, 0), (.aload_n 0, 1), (.bipush 8, 2), (.athrow, 0), (.newarray .int, 2), (.athrow, 0)], [(.putfield 56, 3), (.athrow, 0), (.athrow, 0), (.aload_n 0, 1), (.bipush 8, 2), (.athrow, 0), (.newarray .int, 2), (.athrow, 0)], [(.putfield 59, 3), (.athrow, 0), (.athrow, 0), (.aload_n 0, 1), (.bipush 64, 2), (.athrow, 0), (.newarray .int, 2), (.athrow, 0)], [(.putfield 62, 3), (.athrow, 0), (.athrow, 0), (.aload_n 0, 1), (.iconst (-1), 1), (.putfield 65, 3), (.athrow, 0), (.athrow, 0)], [(.aload_n 0, 1), (.iconst 4, 1), (.newarray .boolean, 2), (.athrow, 0), (.putfield 68, 3), (.athrow, 0), (.athrow, 0), (.aload_n 0, 1)], [(.iconst 4, 1), (.newarray .int, 2), (.athrow, 0), (.putfield 72, 3), (.athrow, 0), (.athrow, 0), (.aload_n 0, 1), (.iconst 4, 1)], [(.newarray .int, 2), (.athrow, 0), (.putfield 75, 3), (.athrow, 0), (.athrow, 0), (.aload_n 0, 1), (.sipush 160, 3), (.athrow, 0)], [(.athrow, 0), (.newarray .int, 2), (.athrow, 0), (.putfield 78, 3), (.athrow, 0), (.athrow, 0), (.aload_n 0, 1), (.iconst 0, 1)], [(.bipush 109, 2), (.athrow, 0), (.bipush 101, 2), (.athrow, 0), (.bipush 101, 2), (.athrow, 0), (.bipush 116, 2), (.athrow, 0)], [(.bipush 115, 2), (.athrow, 0), (.bipush 32, 2), (.athrow, 0), (.bipush 53, 2), (.athrow, 0), (.bipush 32, 2), (.athrow, 0)], [(.invokevirtual 81, 3), (.athrow, 0), (.athrow, 0), (.aload_n 0, 1), (.bipush 8, 2), (.athrow, 0), (.bipush 59, 2), (.athrow, 0)], [(.bipush 32, 2), (.athrow, 0), (.bipush 102, 2), (.athrow, 0), (.bipush 97, 2), (.athrow, 0), (.bipush 100, 2), (.athrow, 0)], [(.bipush 101, 2), (.athrow, 0), (.bipush 115, 2), (.athrow, 0), (.bipush 32, 2), (.athrow, 0), (.invokevirtual 81, 3), (.athrow, 0)], [(.athrow, 0), (.aload_n 0, 1), (.bipush 16, 2), (.athrow, 0), (.bipush 50, 2), (.athrow, 0), (.bipush 32, 2), (.athrow, 0)], [(.bipush 59, 2), (.athrow, 0), (.bipush 32, 2), (.athrow, 0), (.bipush 115, 2), (.athrow, 0), (.bipush 111, 2), (.athrow, 0)], [(.bipush 117, 2), (.athrow, 0), (.bipush 110, 2), (.athrow, 0), (.invokevirtual 81, 3), (.athrow, 0), (.athrow, 0), (.aload_n 0, 1)], [(.bipush 24, 2), (.athrow, 0), (.bipush 100, 2), (.athrow, 0), (.bipush 115, 2), (.athrow, 0), (.bipush 32, 2), (.athrow, 0)], [(.bipush 115, 2), (.athrow, 0), (.bipush 101, 2), (.athrow, 0), (.bipush 97, 2), (.athrow, 0), (.bipush 116, 2), (.athrow, 0)], [(.bipush 115, 2), (.athrow, 0), (.invokevirtual 81, 3), (.athrow, 0), (.athrow, 0), (.aload_n 0, 1), (.bipush 32, 2), (.athrow, 0)], [(.bipush 32, 2), (.athrow, 0), (.bipush 59, 2), (.athrow, 0), (.bipush 32, 2), (.athrow, 0), (.bipush 32, 2), (.athrow, 0)], [(.bipush 32, 2), (.athrow, 0), (.bipush 32, 2), (.athrow, 0), (.bipush 32, 2), (.athrow, 0), (.bipush 32, 2), (.athrow, 0)], [(.invokevirtual 81, 3), (.athrow, 0), (.athrow, 0), (.aload_n 0, 1), (.getfield 17, 3), (.athrow, 0), (.athrow, 0), (.iconst 0, 1)], [(.bipush 40, 2), (.athrow, 0), (.iastore, 1), (.aload_n 0, 1), (.iconst 1, 1), (.putfield 85, 3), (.athrow, 0), (.athrow, 0)], [(.return_, 1)]]
def xt121 : xTb := [[(.aload_n 0, 1), (.getfield 13, 3), (.athrow, 0), (.athrow, 0), (.iload_n 1, 1), (.iload_n 2, 1), (.iastore, 1), (.aload_n 0, 1)], [(.getfield 13, 3), (.athrow, 0), (.athrow, 0), (.iload_n 1, 1), (.iconst 1, 1), (.iadd, 1), (.iload_n 3, 1), (.iastore, 1)], [(.aload_n 0, 1), (.getfield 13, 3), (.athrow, 0), (.athrow, 0), (.iload_n 1, 1), (.iconst 2, 1), (.iadd, 1), (.iload 4, 2)], [(.athrow, 0), (.iastore, 1), (.aload_n 0, 1), (.getfield 13, 3), (.athrow, 0), (.athrow, 0), (.iload_n 1, 1), (.iconst 3, 1)], [(.iadd, 1), (.iload 5, 2), (.athrow, 0), (.iastore, 1), (.aload_n 0, 1), (.getfield 13, 3), (.athrow, 0), (.athrow, 0)], [(.iload_n 1, 1), (.iconst 4, 1), (.iadd, 1), (.iload 6, 2), (.athrow, 0), (.iastore, 1), (.aload_n 0, 1), (.getfield 13, 3)], [(.athrow, 0), (.athrow, 0), (.iload_n 1, 1), (.iconst 5, 1), (.iadd, 1), (.iload 7, 2), (.athrow, 0), (.iastore, 1)], [(.aload_n 0, 1), (.getfield 13, 3), (.athrow, 0), (.athrow, 0), (.iload_n 1, 1), (.bipush 6, 2), (.athrow, 0), (.iadd, 1)], [(.iload 8, 2), (.athrow, 0), (.iastore, 1), (.aload_n 0, 1), (.getfield 13, 3), (.athrow, 0), (.athrow, 0), (.iload_n 1, 1)], [(.bipush 7, 2), (.athrow, 0), (.iadd, 1), (.iload 9, 2), (.athrow, 0), (.iastore, 1), (.return_, 1)]]
def xt122 : xTb := [[(.iload_n 1, 1), (.i2l, 1), (.lconst 0, 1), (.aload_n 0, 1), (.getfield 88, 3), (.athrow, 0), (.athrow, 0), (.iconst 1, 1)], [(.isub, 1), (.i2l, 1), (.invokestatic 91, 3), (.athrow, 0), (.athrow, 0), (.ireturn, 1)]]
def xt123 : xTb := [[(.iload_n 0, 1), (.iconst 3, 1), (.if_icmp .ne 17, 3), (.athrow, 0), (.athrow, 0), (.iload_n 1, 1), (.i2l, 1), (.ldc2_w 95, 3)], [(.athrow, 0), (.athrow, 0), (.ldc2_w 97, 3), (.athrow, 0), (.athrow, 0), (.invokestatic 91, 3), (.athrow, 0), (.athrow, 0)], [(.goto 42, 3), (.athrow, 0), (.athrow, 0), (.iload_n 1, 1), (.i2l, 1), (.iload_n 0, 1), (.iconst 1, 1), (.if_icmp .ne 7, 3)], [(.athrow, 0), (.athrow, 0), (.lconst 1, 1), (.goto 4, 3), (.athrow, 0), (.athrow, 0), (.lconst 0, 1), (.iload_n 0, 1)], [(.ifCond .ne 9, 3), (.athrow, 0), (.athrow, 0), (.ldc2_w 99, 3), (.athrow, 0), (.athrow, 0), (.goto 17, 3), (.athrow, 0)], [(.athrow, 0), (.iload_n 0, 1), (.iconst 1, 1), (.if_icmp .ne 9, 3), (.athrow, 0), (.athrow, 0), (.ldc2_w 101, 3), (.athrow, 0)], [(.athrow, 0), (.goto 6, 3), (.athrow, 0), (.athrow, 0), (.ldc2_w 103, 3), (.athrow, 0), (.athrow, 0), (.invokestatic 91, 3)], [(.athrow, 0), (.athrow, 0), (.ireturn, 1)]]
def xt124 : xTb := [[(.iload_n 1, 1), (.i2l, 1), (.lconst 0, 1), (.ldc2_w 97, 3), (.athrow, 0), (.athrow, 0), (.invokestatic 91, 3), (.athrow, 0)], [(.athrow, 0), (.ifCond .eq 24, 3), (.athrow, 0), (.athrow, 0), (.iload_n 1, 1), (.iconst 1, 1), (.if_icmp .le 11, 3), (.athrow, 0)], [(.athrow, 0), (.aload_n 0, 1), (.iload_n 2, 1), (.invokevirtual 105, 3), (.athrow, 0), (.athrow, 0), (.ifCond .eq 11, 3), (.athrow, 0)], [(.athrow, 0), (.iload_n 1, 1), (.iload_n 3, 1), (.invokestatic 109, 3), (.athrow, 0), (.athrow, 0), (.ifCond .ne 6, 3), (.athrow, 0)], [(.athrow, 0), (.bipush (-2), 2), (.athrow, 0), (.ireturn, 1), (.aload_n 0, 1), (.iload_n 2, 1), (.iload_n 1, 1), (.invokevirtual 113, 3)], [(.athrow, 0), (.athrow, 0), (.istore 4, 2), (.athrow, 0), (.aload_n 0, 1), (.iload_n 1, 1), (.iload_n 2, 1), (.iload_n 3, 1)], [(.invokevirtual 117, 3), (.athrow, 0), (.athrow, 0), (.iload 4, 2), (.athrow, 0), (.ireturn, 1)]]
def xt125 : xTb := [[(.iload_n 1, 1), (.ifCond .ne 11, 3), (.athrow, 0), (.athrow, 0), (.aload_n 0, 1), (.iload_n 3, 1), (.putfield 121, 3), (.athrow, 0)], [(.athrow, 0), (.goto 66, 3), (.athrow, 0), (.athrow, 0), (.iload_n 1, 1), (.iconst 1, 1), (.if_icmp .ne 11, 3), (.athrow, 0)], [(.athrow, 0), (.aload_n 0, 1), (.iload_n 3, 1), (.putfield 23, 3), (.athrow, 0), (.athrow, 0), (.goto 53, 3), (.athrow, 0)], [(.athrow, 0), (.iload_n 1, 1), (.iconst 2, 1), (.if_icmp .ne 13, 3), (.athrow, 0), (.athrow, 0), (.aload_n 0, 1), (.getfield 29, 3)], [(.athrow, 0), (.athrow, 0), (.iload_n 2, 1), (.iload_n 3, 1), (.iastore, 1), (.goto 38, 3), (.athrow, 0), (.athrow, 0)], [(.iload_n 1, 1), (.iconst 3, 1), (.if_icmp .ne 13, 3), (.athrow, 0), (.athrow, 0), (.aload_n 0, 1), (.getfield 32, 3), (.athrow, 0)], [(.athrow, 0), (.iload_n 2, 1), (.iload_n 3, 1), (.iastore, 1), (.goto 23, 3), (.athrow, 0), (.athrow, 0), (.iload_n 1, 1)], [(.iconst 4, 1), (.if_icmp .ne 13, 3), (.athrow, 0), (.athrow, 0), (.aload_n 0, 1), (.getfield 26, 3), (.athrow, 0), (.athrow, 0)], [(.iload_n 2, 1), (.iload_n 3, 1), (.iastore, 1), (.goto 8, 3), (.athrow, 0), (.athrow, 0), (.aload_n 0, 1), (.iload_n 3, 1)], [(.putfield 124, 3), (.athrow, 0), (.athrow, 0), (.return_, 1)]]
def xt126 : xTb := [[(.aload_n 0, 1), (.getfield 35, 3), (.athrow, 0), (.athrow, 0), (.bipush 8, 2), (.athrow, 0), (.iload_n 1, 1), (.imul, 1)], [(.iload_n 2, 1), (.iadd, 1), (.iaload, 1), (.ireturn, 1)]]
def xt127 : xTb := [[(.iload_n 3, 1), (.iconst 0, 1), (.bipush 99, 2), (.athrow, 0), (.invokestatic 127, 3), (.athrow, 0), (.athrow, 0), (.istore 4, 2)], [(.athrow, 0), (.aload_n 0, 1), (.getfield 35, 3), (.athrow, 0), (.athrow, 0), (.bipush 8, 2), (.athrow, 0), (.iload_n 1, 1)], [(.imul, 1), (.iload_n 2, 1), (.iadd, 1), (.iload 4, 2), (.athrow, 0), (.iastore, 1), (.aload_n 0, 1), (.getfield 35, 3)], [(.athrow, 0), (.athrow, 0), (.bipush 8, 2), (.athrow, 0), (.iload_n 2, 1), (.imul, 1), (.iload_n 1, 1), (.iadd, 1)], [(.iload 4, 2), (.athrow, 0), (.iastore, 1), (.return_, 1)]]
def xt128 : xTb := [[(.iload_n 1, 1), (.i2l, 1), (.lconst 0, 1), (.ldc2_w 131, 3), (.athrow, 0), (.athrow, 0), (.invokestatic 91, 3), (.athrow, 0)], [(.athrow, 0), (.ifCond .eq 15, 3), (.athrow, 0), (.athrow, 0), (.iload_n 2, 1), (.i2l, 1), (.lconst 0, 1), (.ldc2_w 103, 3)], [(.athrow, 0), (.athrow, 0), (.invokestatic 91, 3), (.athrow, 0), (.athrow, 0), (.ifCond .ne 6, 3), (.athrow, 0), (.athrow, 0)], [(.bipush (-2), 2), (.athrow, 0), (.ireturn, 1), (.aload_n 0, 1), (.getfield 88, 3), (.athrow, 0), (.athrow, 0), (.bipush 8, 2)], [(.athrow, 0), (.if_icmp .ne 6, 3), (.athrow, 0), (.athrow, 0), (.bipush (-4), 2), (.athrow, 0), (.ireturn, 1), (.aload_n 0, 1)], [(.getfield 26, 3), (.athrow, 0), (.athrow, 0), (.aload_n 0, 1), (.getfield 88, 3), (.athrow, 0), (.athrow, 0), (.iload_n 1, 1)], [(.iastore, 1), (.aload_n 0, 1), (.getfield 29, 3), (.athrow, 0), (.athrow, 0), (.aload_n 0, 1), (.getfield 88, 3), (.athrow, 0)], [(.athrow, 0), (.iload_n 2, 1), (.iastore, 1), (.aload_n 0, 1), (.getfield 32, 3), (.athrow, 0), (.athrow, 0), (.aload_n 0, 1)], [(.getfield 88, 3), (.athrow, 0), (.athrow, 0), (.iconst (-1), 1), (.iastore, 1), (.iconst 0, 1), (.istore_n 3, 1), (.iload_n 3, 1)], [(.bipush 8, 2), (.athrow, 0), (.if_icmp .ge 19, 3), (.athrow, 0), (.athrow, 0), (.aload_n 0, 1), (.aload_n 0, 1), (.getfield 88, 3)], [(.athrow, 0), (.athrow, 0), (.iload_n 3, 1), (.iconst 0, 1), (.invokevirtual 133, 3), (.athrow, 0), (.athrow, 0), (.iinc 3 1, 3)], [(.athrow, 0), (.athrow, 0), (.goto (-19), 3), (.athrow, 0), (.athrow, 0), (.aload_n 0, 1), (.dup, 1), (.getfield 88, 3)], [(.athrow, 0), (.athrow, 0), (.iconst 1, 1), (.iadd, 1), (.putfield 88, 3), (.athrow, 0), (.athrow, 0), (.aload_n 0, 1)], [(.getfield 88, 3), (.athrow, 0), (.athrow, 0), (.iconst 1, 1), (.isub, 1), (.ireturn, 1)]]
def xt129 : xTb := [[(.aload_n 0, 1), (.iload_n 1, 1), (.invokevirtual 105, 3), (.athrow, 0), (.athrow, 0), (.ifCond .eq 20, 3), (.athrow, 0), (.athrow, 0)], [(.aload_n 0, 1), (.iload_n 2, 1), (.invokevirtual 105, 3), (.athrow, 0), (.athrow, 0), (.ifCond .eq 12, 3), (.athrow, 0), (.athrow, 0)], [(.iload_n 1, 1), (.iload_n 2, 1), (.if_icmp .eq 7, 3), (.athrow, 0), (.athrow, 0), (.iconst 1, 1), (.goto 4, 3), (.athrow, 0)], [(.athrow, 0), (.iconst 0, 1), (.ireturn, 1)]]
def xt130 : xTb := [[(.aload_n 0, 1), (.iload_n 1, 1), (.iload_n 2, 1), (.invokevirtual 136, 3), (.athrow, 0), (.athrow, 0), (.ifCond .eq 15, 3), (.athrow, 0)], [(.athrow, 0), (.iload_n 3, 1), (.i2l, 1), (.lconst 0, 1), (.ldc2_w 101, 3), (.athrow, 0), (.athrow, 0), (.invokestatic 91, 3)], [(.athrow, 0), (.athrow, 0), (.ifCond .ne 6, 3), (.athrow, 0), (.athrow, 0), (.bipush (-2), 2), (.athrow, 0), (.ireturn, 1)], [(.aload_n 0, 1), (.iload_n 1, 1), (.iload_n 2, 1), (.invokevirtual 139, 3), (.athrow, 0), (.athrow, 0), (.istore 4, 2), (.athrow, 0)], [(.aload_n 0, 1), (.iload_n 1, 1), (.iload_n 2, 1), (.iload_n 3, 1), (.invokevirtual 133, 3), (.athrow, 0), (.athrow, 0), (.iload 4, 2)], [(.athrow, 0), (.ireturn, 1)]]
def xt131 : xTb := [[(.iload_n 2, 1), (.i2l, 1), (.ldc2_w 142, 3), (.athrow, 0), (.athrow, 0), (.ldc2_w 144, 3), (.athrow, 0), (.athrow, 0)], [(.invokestatic 91, 3), (.athrow, 0), (.athrow, 0), (.ifCond .eq 18, 3), (.athrow, 0), (.athrow, 0), (.aload_n 0, 1), (.iload_n 2, 1)], [(.bipush 10, 2), (.athrow, 0), (.isub, 1), (.invokevirtual 105, 3), (.athrow, 0), (.athrow, 0), (.ifCond .eq 7, 3), (.athrow, 0)], [(.athrow, 0), (.iconst 1, 1), (.goto 4, 3), (.athrow, 0), (.athrow, 0), (.iconst 0, 1), (.istore_n 3, 1), (.iload_n 2, 1)], [(.i2l, 1), (.lconst 0, 1), (.ldc2_w 146, 3), (.athrow, 0), (.athrow, 0), (.invokestatic 91, 3), (.athrow, 0), (.athrow, 0)], [(.ifCond .ne 7, 3), (.athrow, 0), (.athrow, 0), (.iload_n 3, 1), (.ifCond .eq 16, 3), (.athrow, 0), (.athrow, 0), (.iload_n 2, 1)], [(.iconst 1, 1), (.if_icmp .le 14, 3), (.athrow, 0), (.athrow, 0), (.aload_n 0, 1), (.iload_n 1, 1), (.invokevirtual 105, 3), (.athrow, 0)], [(.athrow, 0), (.ifCond .ne 6, 3), (.athrow, 0), (.athrow, 0), (.bipush (-2), 2), (.athrow, 0), (.ireturn, 1), (.iload_n 3, 1)], [(.ifCond .eq 13, 3), (.athrow, 0), (.athrow, 0), (.aload_n 0, 1), (.iload_n 1, 1), (.iload_n 2, 1), (.bipush 10, 2), (.athrow, 0)], [(.isub, 1), (.invokevirtual 139, 3), (.athrow, 0), (.athrow, 0), (.ireturn, 1), (.iload_n 2, 1), (.iconst 5, 1), (.if_icmp .ge 61, 3)], [(.athrow, 0), (.athrow, 0), (.iload_n 2, 1), (.ifCond .ne 10, 3), (.athrow, 0), (.athrow, 0), (.aload_n 0, 1), (.getfield 121, 3)], [(.athrow, 0), (.athrow, 0), (.goto 49, 3), (.athrow, 0), (.athrow, 0), (.iload_n 2, 1), (.iconst 1, 1), (.if_icmp .ne 10, 3)], [(.athrow, 0), (.athrow, 0), (.aload_n 0, 1), (.getfield 23, 3), (.athrow, 0), (.athrow, 0), (.goto 37, 3), (.athrow, 0)], [(.athrow, 0), (.iload_n 2, 1), (.iconst 2, 1), (.if_icmp .ne 12, 3), (.athrow, 0), (.athrow, 0), (.aload_n 0, 1), (.getfield 29, 3)], [(.athrow, 0), (.athrow, 0), (.iload_n 1, 1), (.iaload, 1), (.goto 23, 3), (.athrow, 0), (.athrow, 0), (.iload_n 2, 1)], [(.iconst 3, 1), (.if_icmp .ne 12, 3), (.athrow, 0), (.athrow, 0), (.aload_n 0, 1), (.getfield 32, 3), (.athrow, 0), (.athrow, 0)], [(.iload_n 1, 1), (.iaload, 1), (.goto 9, 3), (.athrow, 0), (.athrow, 0), (.aload_n 0, 1), (.getfield 26, 3), (.athrow, 0)], [(.athrow, 0), (.iload_n 1, 1), (.iaload, 1), (.ireturn, 1), (.iload_n 2, 1), (.iconst 5, 1), (.if_icmp .le 23, 3), (.athrow, 0)], [(.athrow, 0), (.iload_n 2, 1), (.bipush 6, 2), (.athrow, 0), (.if_icmp .ne 11, 3), (.athrow, 0), (.athrow, 0), (.aload_n 0, 1)], [(.iload_n 1, 1), (.invokevirtual 148, 3), (.athrow, 0), (.athrow, 0), (.goto 8, 3), (.athrow, 0), (.athrow, 0), (.aload_n 0, 1)], [(.iload_n 1, 1), (.invokevirtual 152, 3), (.athrow, 0), (.athrow, 0), (.ireturn, 1), (.iconst 0, 1), (.istore 4, 2), (.athrow, 0)], [(.iconst 0, 1), (.istore 5, 2), (.athrow, 0), (.iload 5, 2), (.athrow, 0), (.aload_n 0, 1), (.getfield 88, 3), (.athrow, 0)], [(.athrow, 0), (.if_icmp .ge 29, 3), (.athrow, 0), (.athrow, 0), (.iload 4, 2), (.athrow, 0), (.aload_n 0, 1), (.iload_n 1, 1)], [(.iload 5, 2), (.athrow, 0), (.invokevirtual 155, 3), (.athrow, 0), (.athrow, 0), (.ifCond .eq 7, 3), (.athrow, 0), (.athrow, 0)], [(.iconst 1, 1), (.goto 4, 3), (.athrow, 0), (.athrow, 0), (.iconst 0, 1), (.iadd, 1), (.istore 4, 2), (.athrow, 0)], [(.iinc 5 1, 3), (.athrow, 0), (.athrow, 0), (.goto (-32), 3), (.athrow, 0), (.athrow, 0), (.iload 4, 2), (.athrow, 0)], [(.ireturn, 1)]]
def xt132 : xTb := [[(.iconst 0, 1), (.istore_n 2, 1), (.iconst 0, 1), (.istore_n 3, 1), (.iload_n 3, 1), (.aload_n 0, 1), (.getfield 88, 3), (.athrow, 0)], [(.athrow, 0), (.if_icmp .ge 42, 3), (.athrow, 0), (.athrow, 0), (.iload_n 2, 1), (.aload_n 0, 1), (.getfield 32, 3), (.athrow, 0)], [(.athrow, 0), (.iload_n 1, 1), (.iaload, 1), (.iconst (-1), 1), (.if_icmp .eq 22, 3), (.athrow, 0), (.athrow, 0), (.aload_n 0, 1)], [(.getfield 32, 3), (.athrow, 0), (.athrow, 0), (.iload_n 3, 1), (.iaload, 1), (.aload_n 0, 1), (.getfield 32, 3), (.athrow, 0)], [(.athrow, 0), (.iload_n 1, 1), (.iaload, 1), (.if_icmp .ne 7, 3), (.athrow, 0), (.athrow, 0), (.iconst 1, 1), (.goto 4, 3)], [(.athrow, 0), (.athrow, 0), (.iconst 0, 1), (.iadd, 1), (.istore_n 2, 1), (.iinc 3 1, 3), (.athrow, 0), (.athrow, 0)], [(.goto (-44), 3), (.athrow, 0), (.athrow, 0), (.iload_n 2, 1), (.ireturn, 1)]]
def xt133 : xTb := [[(.iload_n 1, 1), (.i2l, 1), (.lconst 0, 1), (.ldc2_w 158, 3), (.athrow, 0), (.athrow, 0), (.invokestatic 91, 3), (.athrow, 0)], [(.athrow, 0), (.ifCond .ne 6, 3), (.athrow, 0), (.athrow, 0), (.bipush (-2), 2), (.athrow, 0), (.ireturn, 1), (.aload_n 0, 1)], [(.getfield 160, 3), (.athrow, 0), (.athrow, 0), (.sipush 160, 3), (.athrow, 0), (.athrow, 0), (.if_icmp .ne 6, 3), (.athrow, 0)], [(.athrow, 0), (.bipush (-4), 2), (.athrow, 0), (.ireturn, 1), (.aload_n 0, 1), (.getfield 20, 3), (.athrow, 0), (.athrow, 0)], [(.aload_n 0, 1), (.getfield 160, 3), (.athrow, 0), (.athrow, 0), (.iload_n 1, 1), (.iastore, 1), (.aload_n 0, 1), (.dup, 1)], [(.getfield 160, 3), (.athrow, 0), (.athrow, 0), (.iconst 1, 1), (.iadd, 1), (.putfield 160, 3), (.athrow, 0), (.athrow, 0)], [(.aload_n 0, 1), (.getfield 160, 3), (.athrow, 0), (.athrow, 0), (.ireturn, 1)]]
def xt134 : xTb := [[(.iload_n 1, 1), (.aload_n 0, 1), (.getfield 163, 3), (.athrow, 0), (.athrow, 0), (.if_icmp .ge 17, 3), (.athrow, 0), (.athrow, 0)], [(.aload_n 0, 1), (.getfield 13, 3), (.athrow, 0), (.athrow, 0), (.aload_n 0, 1), (.getfield 166, 3), (.athrow, 0), (.athrow, 0)], [(.iload_n 1, 1), (.iadd, 1), (.iaload, 1), (.goto 4, 3), (.athrow, 0), (.athrow, 0), (.iconst (-1), 1), (.ireturn, 1)]]
def xt135 : xTb := [[(.aload_n 0, 1), (.aload_n 0, 1), (.getfield 169, 3), (.athrow, 0), (.athrow, 0), (.invokevirtual 172, 3), (.athrow, 0), (.athrow, 0)], [(.bipush 32, 2), (.athrow, 0), (.if_icmp .eq 16, 3), (.athrow, 0), (.athrow, 0), (.aload_n 0, 1), (.aload_n 0, 1), (.getfield 169, 3)], [(.athrow, 0), (.athrow, 0), (.invokevirtual 172, 3), (.athrow, 0), (.athrow, 0), (.bipush 10, 2), (.athrow, 0), (.if_icmp .ne 16, 3)], [(.athrow, 0), (.athrow, 0), (.aload_n 0, 1), (.dup, 1), (.getfield 169, 3), (.athrow, 0), (.athrow, 0), (.iconst 1, 1)], [(.iadd, 1), (.putfield 169, 3), (.athrow, 0), (.athrow, 0), (.goto (-36), 3), (.athrow, 0), (.athrow, 0), (.aload_n 0, 1)], [(.aload_n 0, 1), (.getfield 169, 3), (.athrow, 0), (.athrow, 0), (.putfield 175, 3), (.athrow, 0), (.athrow, 0), (.aload_n 0, 1)], [(.aload_n 0, 1), (.getfield 169, 3), (.athrow, 0), (.athrow, 0), (.invokevirtual 172, 3), (.athrow, 0), (.athrow, 0), (.istore_n 1, 1)], [(.aload_n 0, 1), (.iconst 4, 1), (.putfield 178, 3), (.athrow, 0), (.athrow, 0), (.iload_n 1, 1), (.ifCond .ge 19, 3), (.athrow, 0)], [(.athrow, 0), (.aload_n 0, 1), (.iconst 0, 1), (.putfield 178, 3), (.athrow, 0), (.athrow, 0), (.aload_n 0, 1), (.aload_n 0, 1)], [(.getfield 163, 3), (.athrow, 0), (.athrow, 0), (.putfield 175, 3), (.athrow, 0), (.athrow, 0), (.goto 243, 3), (.athrow, 0)], [(.athrow, 0), (.iload_n 1, 1), (.i2l, 1), (.ldc2_w 181, 3), (.athrow, 0), (.athrow, 0), (.ldc2_w 183, 3), (.athrow, 0)], [(.athrow, 0), (.invokestatic 91, 3), (.athrow, 0), (.athrow, 0), (.ifCond .eq 42, 3), (.athrow, 0), (.athrow, 0), (.aload_n 0, 1)], [(.iconst 1, 1), (.putfield 178, 3), (.athrow, 0), (.athrow, 0), (.aload_n 0, 1), (.aload_n 0, 1), (.getfield 169, 3), (.athrow, 0)], [(.athrow, 0), (.invokevirtual 172, 3), (.athrow, 0), (.athrow, 0), (.i2l, 1), (.ldc2_w 181, 3), (.athrow, 0), (.athrow, 0)], [(.ldc2_w 183, 3), (.athrow, 0), (.athrow, 0), (.invokestatic 91, 3), (.athrow, 0), (.athrow, 0), (.ifCond .eq 203, 3), (.athrow, 0)], [(.athrow, 0), (.aload_n 0, 1), (.dup, 1), (.getfield 169, 3), (.athrow, 0), (.athrow, 0), (.iconst 1, 1), (.iadd, 1)], [(.putfield 169, 3), (.athrow, 0), (.athrow, 0), (.goto (-31), 3), (.athrow, 0), (.athrow, 0), (.iload_n 1, 1), (.i2l, 1)], [(.ldc2_w 185, 3), (.athrow, 0), (.athrow, 0), (.ldc2_w 187, 3), (.athrow, 0), (.athrow, 0), (.invokestatic 91, 3), (.athrow, 0)], [(.athrow, 0), (.ifCond .eq 107, 3), (.athrow, 0), (.athrow, 0), (.aload_n 0, 1), (.iconst 2, 1), (.putfield 178, 3), (.athrow, 0)], [(.athrow, 0), (.aload_n 0, 1), (.lconst 0, 1), (.putfield 189, 3), (.athrow, 0), (.athrow, 0), (.iconst 0, 1), (.istore_n 2, 1)], [(.aload_n 0, 1), (.aload_n 0, 1), (.getfield 169, 3), (.athrow, 0), (.athrow, 0), (.invokevirtual 172, 3), (.athrow, 0), (.athrow, 0)], [(.i2l, 1), (.ldc2_w 185, 3), (.athrow, 0), (.athrow, 0), (.ldc2_w 187, 3), (.athrow, 0), (.athrow, 0), (.invokestatic 91, 3)], [(.athrow, 0), (.athrow, 0), (.ifCond .eq 57, 3), (.athrow, 0), (.athrow, 0), (.aload_n 0, 1), (.iload_n 2, 1), (.iconst 4, 1)], [(.if_icmp .ge 28, 3), (.athrow, 0), (.athrow, 0), (.ldc2_w 142, 3), (.athrow, 0), (.athrow, 0), (.aload_n 0, 1), (.getfield 189, 3)], [(.athrow, 0), (.athrow, 0), (.lmul, 1), (.aload_n 0, 1), (.aload_n 0, 1), (.getfield 169, 3), (.athrow, 0), (.athrow, 0)], [(.invokevirtual 172, 3), (.athrow, 0), (.athrow, 0), (.i2l, 1), (.ladd, 1), (.ldc2_w 185, 3), (.athrow, 0), (.athrow, 0)], [(.lsub, 1), (.goto 7, 3), (.athrow, 0), (.athrow, 0), (.aload_n 0, 1), (.getfield 189, 3), (.athrow, 0), (.athrow, 0)], [(.putfield 189, 3), (.athrow, 0), (.athrow, 0), (.iinc 2 1, 3), (.athrow, 0), (.athrow, 0), (.aload_n 0, 1), (.dup, 1)], [(.getfield 169, 3), (.athrow, 0), (.athrow, 0), (.iconst 1, 1), (.iadd, 1), (.putfield 169, 3), (.athrow, 0), (.athrow, 0)], [(.goto (-72), 3), (.athrow, 0), (.athrow, 0), (.aload_n 0, 1), (.iload_n 2, 1), (.iconst 4, 1), (.if_icmp .le 7, 3), (.athrow, 0)], [(.athrow, 0), (.iconst 4, 1), (.goto 4, 3), (.athrow, 0), (.athrow, 0), (.iconst 2, 1), (.putfield 178, 3), (.athrow, 0)], [(.athrow, 0), (.goto 72, 3), (.athrow, 0), (.athrow, 0), (.iload_n 1, 1), (.bipush 40, 2), (.athrow, 0), (.if_icmp .eq 45, 3)], [(.athrow, 0), (.athrow, 0), (.iload_n 1, 1), (.bipush 41, 2), (.athrow, 0), (.if_icmp .eq 39, 3), (.athrow, 0), (.athrow, 0)], [(.iload_n 1, 1), (.bipush 59, 2), (.athrow, 0), (.if_icmp .eq 33, 3), (.athrow, 0), (.athrow, 0), (.iload_n 1, 1), (.bipush 43, 2)], [(.athrow, 0), (.if_icmp .eq 27, 3), (.athrow, 0), (.athrow, 0), (.iload_n 1, 1), (.bipush 45, 2), (.athrow, 0), (.if_icmp .eq 21, 3)], [(.athrow, 0), (.athrow, 0), (.iload_n 1, 1), (.bipush 42, 2), (.athrow, 0), (.if_icmp .eq 15, 3), (.athrow, 0), (.athrow, 0)], [(.iload_n 1, 1), (.bipush 60, 2), (.athrow, 0), (.if_icmp .eq 9, 3), (.athrow, 0), (.athrow, 0), (.iload_n 1, 1), (.bipush 61, 2)], [(.athrow, 0), (.if_icmp .ne 24, 3), (.athrow, 0), (.athrow, 0), (.aload_n 0, 1), (.iconst 3, 1), (.putfield 178, 3), (.athrow, 0)], [(.athrow, 0), (.aload_n 0, 1), (.iload_n 1, 1), (.i2l, 1), (.putfield 189, 3), (.athrow, 0), (.athrow, 0), (.aload_n 0, 1)], [(.dup, 1), (.getfield 169, 3), (.athrow, 0), (.athrow, 0), (.iconst 1, 1), (.iadd, 1), (.putfield 169, 3), (.athrow, 0)], [(.athrow, 0), (.return_, 1)]]
def xt136 : xTb := [[(.aload_n 0, 1), (.getfield 193, 3), (.athrow, 0), (.athrow, 0), (.ifCond .ne 16, 3), (.athrow, 0), (.athrow, 0), (.aload_n 0, 1)], [(.iconst 1, 1), (.putfield 193, 3), (.athrow, 0), (.athrow, 0), (.aload_n 0, 1), (.aload_n 0, 1), (.getfield 175, 3), (.athrow, 0)], [(.athrow, 0), (.putfield 197, 3), (.athrow, 0), (.athrow, 0), (.return_, 1)]]
def xt137 : xTb := [[(.aload_n 0, 1), (.getfield 175, 3), (.athrow, 0), (.athrow, 0), (.iload_n 1, 1), (.iadd, 1), (.aload_n 0, 1), (.getfield 169, 3)], [(.athrow, 0), (.athrow, 0), (.if_icmp .ge 25, 3), (.athrow, 0), (.athrow, 0), (.aload_n 0, 1), (.aload_n 0, 1), (.getfield 175, 3)], [(.athrow, 0), (.athrow, 0), (.iload_n 1, 1), (.iadd, 1), (.invokevirtual 172, 3), (.athrow, 0), (.athrow, 0), (.iload_n 2, 1)], [(.if_icmp .ne 7, 3), (.athrow, 0), (.athrow, 0), (.iconst 1, 1), (.goto 16, 3), (.athrow, 0), (.athrow, 0), (.iconst 0, 1)], [(.goto 12, 3), (.athrow, 0), (.athrow, 0), (.iload_n 2, 1), (.ifCond .ne 7, 3), (.athrow, 0), (.athrow, 0), (.iconst 1, 1)], [(.goto 4, 3), (.athrow, 0), (.athrow, 0), (.iconst 0, 1), (.ireturn, 1)]]
def xt138 : xTb := [[(.aload_n 0, 1), (.getfield 193, 3), (.athrow, 0), (.athrow, 0), (.ifCond .ne 108, 3), (.athrow, 0), (.athrow, 0), (.aload_n 0, 1)], [(.getfield 178, 3), (.athrow, 0), (.athrow, 0), (.iconst 1, 1), (.if_icmp .ne 100, 3), (.athrow, 0), (.athrow, 0), (.aload_n 0, 1)], [(.getfield 169, 3), (.athrow, 0), (.athrow, 0), (.aload_n 0, 1), (.getfield 175, 3), (.athrow, 0), (.athrow, 0), (.bipush 8, 2)], [(.athrow, 0), (.iadd, 1), (.if_icmp .gt 86, 3), (.athrow, 0), (.athrow, 0), (.aload_n 0, 1), (.iconst 0, 1), (.iload_n 1, 1)], [(.invokevirtual 200, 3), (.athrow, 0), (.athrow, 0), (.ifCond .eq 77, 3), (.athrow, 0), (.athrow, 0), (.aload_n 0, 1), (.iconst 1, 1)], [(.iload_n 2, 1), (.invokevirtual 200, 3), (.athrow, 0), (.athrow, 0), (.ifCond .eq 68, 3), (.athrow, 0), (.athrow, 0), (.aload_n 0, 1)], [(.iconst 2, 1), (.iload_n 3, 1), (.invokevirtual 200, 3), (.athrow, 0), (.athrow, 0), (.ifCond .eq 59, 3), (.athrow, 0), (.athrow, 0)], [(.aload_n 0, 1), (.iconst 3, 1), (.iload 4, 2), (.athrow, 0), (.invokevirtual 200, 3), (.athrow, 0), (.athrow, 0), (.ifCond .eq 49, 3)], [(.athrow, 0), (.athrow, 0), (.aload_n 0, 1), (.iconst 4, 1), (.iload 5, 2), (.athrow, 0), (.invokevirtual 200, 3), (.athrow, 0)], [(.athrow, 0), (.ifCond .eq 39, 3), (.athrow, 0), (.athrow, 0), (.aload_n 0, 1), (.iconst 5, 1), (.iload 6, 2), (.athrow, 0)], [(.invokevirtual 200, 3), (.athrow, 0), (.athrow, 0), (.ifCond .eq 29, 3), (.athrow, 0), (.athrow, 0), (.aload_n 0, 1), (.bipush 6, 2)], [(.athrow, 0), (.iload 7, 2), (.athrow, 0), (.invokevirtual 200, 3), (.athrow, 0), (.athrow, 0), (.ifCond .eq 18, 3), (.athrow, 0)], [(.athrow, 0), (.aload_n 0, 1), (.bipush 7, 2), (.athrow, 0), (.iload 8, 2), (.athrow, 0), (.invokevirtual 200, 3), (.athrow, 0)], [(.athrow, 0), (.ifCond .eq 7, 3), (.athrow, 0), (.athrow, 0), (.iconst 1, 1), (.goto 4, 3), (.athrow, 0), (.athrow, 0)], [(.iconst 0, 1), (.ireturn, 1)]]
def xt139 : xTb := [[(.aload_n 0, 1), (.getfield 193, 3), (.athrow, 0), (.athrow, 0), (.ifCond .ne 25, 3), (.athrow, 0), (.athrow, 0), (.aload_n 0, 1)], [(.getfield 178, 3), (.athrow, 0), (.athrow, 0), (.iconst 3, 1), (.if_icmp .ne 17, 3), (.athrow, 0), (.athrow, 0), (.aload_n 0, 1)], [(.getfield 189, 3), (.athrow, 0), (.athrow, 0), (.iload_n 1, 1), (.i2l, 1), (.lcmp, 1), (.ifCond .ne 7, 3), (.athrow, 0)], [(.athrow, 0), (.iconst 1, 1), (.goto 4, 3), (.athrow, 0), (.athrow, 0), (.iconst 0, 1), (.ireturn, 1)]]
def xt140 : xTb := [[(.aload_n 0, 1), (.getfield 203, 3), (.athrow, 0), (.athrow, 0), (.iconst 5, 1), (.if_icmp .ne 9, 3), (.athrow, 0), (.athrow, 0)], [(.aload_n 0, 1), (.invokevirtual 206, 3), (.athrow, 0), (.athrow, 0), (.iconst 0, 1), (.ireturn, 1), (.aload_n 0, 1), (.dup, 1)], [(.getfield 203, 3), (.athrow, 0), (.athrow, 0), (.iconst 1, 1), (.iadd, 1), (.putfield 203, 3), (.athrow, 0), (.athrow, 0)], [(.aload_n 0, 1), (.invokevirtual 209, 3), (.athrow, 0), (.athrow, 0), (.iconst 1, 1), (.ireturn, 1)]]
def xt141 : xTb := [[(.aload_n 0, 1), (.bipush 115, 2), (.athrow, 0), (.bipush 116, 2), (.athrow, 0), (.bipush 114, 2), (.athrow, 0), (.bipush 101, 2)], [(.athrow, 0), (.bipush 110, 2), (.athrow, 0), (.bipush 103, 2), (.athrow, 0), (.bipush 116, 2), (.athrow, 0), (.bipush 104, 2)], [(.athrow, 0), (.invokevirtual 212, 3), (.athrow, 0), (.athrow, 0), (.ifCond .eq 8, 3), (.athrow, 0), (.athrow, 0), (.aload_n 0, 1)], [(.getfield 216, 3), (.athrow, 0), (.athrow, 0), (.ireturn, 1), (.aload_n 0, 1), (.bipush 110, 2), (.athrow, 0), (.bipush 117, 2)], [(.athrow, 0), (.bipush 109, 2), (.athrow, 0), (.bipush 98, 2), (.athrow, 0), (.bipush 101, 2), (.athrow, 0), (.bipush 114, 2)], [(.athrow, 0), (.iconst 0, 1), (.iconst 0, 1), (.invokevirtual 212, 3), (.athrow, 0), (.athrow, 0), (.ifCond .eq 8, 3), (.athrow, 0)], [(.athrow, 0), (.aload_n 0, 1), (.getfield 219, 3), (.athrow, 0), (.athrow, 0), (.ireturn, 1), (.aload_n 0, 1), (.bipush 111, 2)], [(.athrow, 0), (.bipush 116, 2), (.athrow, 0), (.bipush 104, 2), (.athrow, 0), (.bipush 101, 2), (.athrow, 0), (.bipush 114, 2)], [(.athrow, 0), (.iconst 0, 1), (.iconst 0, 1), (.iconst 0, 1), (.invokevirtual 212, 3), (.athrow, 0), (.athrow, 0), (.ifCond .eq 8, 3)], [(.athrow, 0), (.athrow, 0), (.aload_n 0, 1), (.getfield 222, 3), (.athrow, 0), (.athrow, 0), (.ireturn, 1), (.aload_n 0, 1)], [(.bipush 115, 2), (.athrow, 0), (.bipush 101, 2), (.athrow, 0), (.bipush 97, 2), (.athrow, 0), (.bipush 116, 2), (.athrow, 0)], [(.bipush 115, 2), (.athrow, 0), (.iconst 0, 1), (.iconst 0, 1), (.iconst 0, 1), (.invokevirtual 212, 3), (.athrow, 0), (.athrow, 0)], [(.ifCond .eq 8, 3), (.athrow, 0), (.athrow, 0), (.aload_n 0, 1), (.getfield 225, 3), (.athrow, 0), (.athrow, 0), (.ireturn, 1)], [(.aload_n 0, 1), (.bipush 121, 2), (.athrow, 0), (.bipush 101, 2), (.athrow, 0), (.bipush 97, 2), (.athrow, 0), (.bipush 114, 2)], [(.athrow, 0), (.iconst 0, 1), (.iconst 0, 1), (.iconst 0, 1), (.iconst 0, 1), (.invokevirtual 212, 3), (.athrow, 0), (.athrow, 0)], [(.ifCond .eq 8, 3), (.athrow, 0), (.athrow, 0), (.aload_n 0, 1), (.getfield 228, 3), (.athrow, 0), (.athrow, 0), (.ireturn, 1)], [(.aload_n 0, 1), (.bipush 97, 2), (.athrow, 0), (.bipush 112, 2), (.athrow, 0), (.bipush 97, 2), (.athrow, 0), (.bipush 114, 2)], [(.athrow, 0), (.bipush 116, 2), (.athrow, 0), (.iconst 0, 1), (.iconst 0, 1), (.iconst 0, 1), (.invokevirtual 212, 3), (.athrow, 0)], [(.athrow, 0), (.ifCond .eq 8, 3), (.athrow, 0), (.athrow, 0), (.aload_n 0, 1), (.getfield 231, 3), (.athrow, 0), (.athrow, 0)], [(.ireturn, 1), (.aload_n 0, 1), (.invokevirtual 206, 3), (.athrow, 0), (.athrow, 0), (.iconst 0, 1), (.ireturn, 1)]]
def xt142 : xTb := [[(.iconst 0, 1), (.istore_n 1, 1), (.aload_n 0, 1), (.bipush 45, 2), (.athrow, 0), (.invokevirtual 234, 3), (.athrow, 0), (.athrow, 0)], [(.ifCond .eq 11, 3), (.athrow, 0), (.athrow, 0), (.aload_n 0, 1), (.invokevirtual 237, 3), (.athrow, 0), (.athrow, 0), (.pop, 1)], [(.goto 86, 3), (.athrow, 0), (.athrow, 0), (.aload_n 0, 1), (.bipush 40, 2), (.athrow, 0), (.invokevirtual 234, 3), (.athrow, 0)], [(.athrow, 0), (.ifCond .eq 11, 3), (.athrow, 0), (.athrow, 0), (.aload_n 0, 1), (.invokevirtual 237, 3), (.athrow, 0), (.athrow, 0)], [(.pop, 1), (.goto 69, 3), (.athrow, 0), (.athrow, 0), (.aload_n 0, 1), (.getfield 193, 3), (.athrow, 0), (.athrow, 0)], [(.ifCond .ne 24, 3), (.athrow, 0), (.athrow, 0), (.aload_n 0, 1), (.getfield 178, 3), (.athrow, 0), (.athrow, 0), (.iconst 2, 1)], [(.if_icmp .ne 16, 3), (.athrow, 0), (.athrow, 0), (.aload_n 0, 1), (.getfield 189, 3), (.athrow, 0), (.athrow, 0), (.l2i, 1)], [(.istore_n 1, 1), (.aload_n 0, 1), (.invokevirtual 209, 3), (.athrow, 0), (.athrow, 0), (.goto 41, 3), (.athrow, 0), (.athrow, 0)], [(.aload_n 0, 1), (.getfield 193, 3), (.athrow, 0), (.athrow, 0), (.ifCond .ne 30, 3), (.athrow, 0), (.athrow, 0), (.aload_n 0, 1)], [(.getfield 178, 3), (.athrow, 0), (.athrow, 0), (.iconst 1, 1), (.if_icmp .ne 22, 3), (.athrow, 0), (.athrow, 0), (.aload_n 0, 1)], [(.invokevirtual 241, 3), (.athrow, 0), (.athrow, 0), (.istore_n 1, 1), (.aload_n 0, 1), (.getfield 193, 3), (.athrow, 0), (.athrow, 0)], [(.ifCond .ne 14, 3), (.athrow, 0), (.athrow, 0), (.aload_n 0, 1), (.invokevirtual 209, 3), (.athrow, 0), (.athrow, 0), (.goto 7, 3)], [(.athrow, 0), (.athrow, 0), (.aload_n 0, 1), (.invokevirtual 206, 3), (.athrow, 0), (.athrow, 0), (.iload_n 1, 1), (.ireturn, 1)]]
def xt143 : xTb := [[(.aload_n 0, 1), (.invokevirtual 245, 3), (.athrow, 0), (.athrow, 0), (.istore_n 1, 1), (.aload_n 0, 1), (.bipush 42, 2), (.athrow, 0)], [(.invokevirtual 234, 3), (.athrow, 0), (.athrow, 0), (.ifCond .eq 17, 3), (.athrow, 0), (.athrow, 0), (.aload_n 0, 1), (.invokevirtual 209, 3)], [(.athrow, 0), (.athrow, 0), (.iload_n 1, 1), (.aload_n 0, 1), (.invokevirtual 245, 3), (.athrow, 0), (.athrow, 0), (.imul, 1)], [(.istore_n 1, 1), (.goto (-20), 3), (.athrow, 0), (.athrow, 0), (.iload_n 1, 1), (.ireturn, 1)]]
def xt144 : xTb := [[(.aload_n 0, 1), (.invokevirtual 248, 3), (.athrow, 0), (.athrow, 0), (.istore_n 1, 1), (.aload_n 0, 1), (.bipush 43, 2), (.athrow, 0)], [(.invokevirtual 234, 3), (.athrow, 0), (.athrow, 0), (.ifCond .ne 12, 3), (.athrow, 0), (.athrow, 0), (.aload_n 0, 1), (.bipush 45, 2)], [(.athrow, 0), (.invokevirtual 234, 3), (.athrow, 0), (.athrow, 0), (.ifCond .eq 46, 3), (.athrow, 0), (.athrow, 0), (.aload_n 0, 1)], [(.getfield 189, 3), (.athrow, 0), (.athrow, 0), (.ldc2_w 251, 3), (.athrow, 0), (.athrow, 0), (.lcmp, 1), (.ifCond .ne 7, 3)], [(.athrow, 0), (.athrow, 0), (.iconst 1, 1), (.goto 4, 3), (.athrow, 0), (.athrow, 0), (.iconst 0, 1), (.istore_n 2, 1)], [(.aload_n 0, 1), (.invokevirtual 209, 3), (.athrow, 0), (.athrow, 0), (.aload_n 0, 1), (.invokevirtual 248, 3), (.athrow, 0), (.athrow, 0)], [(.istore_n 3, 1), (.iload_n 2, 1), (.ifCond .eq 9, 3), (.athrow, 0), (.athrow, 0), (.iload_n 1, 1), (.iload_n 3, 1), (.iadd, 1)], [(.goto 6, 3), (.athrow, 0), (.athrow, 0), (.iload_n 1, 1), (.iload_n 3, 1), (.isub, 1), (.istore_n 1, 1), (.goto (-58), 3)], [(.athrow, 0), (.athrow, 0), (.iload_n 1, 1), (.ireturn, 1)]]
def xt145 : xTb := [[(.aload_n 0, 1), (.bipush 110, 2), (.athrow, 0), (.bipush 111, 2), (.athrow, 0), (.bipush 116, 2), (.athrow, 0), (.iconst 0, 1)], [(.iconst 0, 1), (.iconst 0, 1), (.iconst 0, 1), (.iconst 0, 1), (.invokevirtual 212, 3), (.athrow, 0), (.athrow, 0), (.ifCond .eq 10, 3)], [(.athrow, 0), (.athrow, 0), (.aload_n 0, 1), (.invokevirtual 237, 3), (.athrow, 0), (.athrow, 0), (.pop, 1), (.iconst 0, 1)], [(.ireturn, 1), (.aload_n 0, 1), (.invokevirtual 253, 3), (.athrow, 0), (.athrow, 0), (.istore_n 1, 1), (.aload_n 0, 1), (.bipush 60, 2)], [(.athrow, 0), (.invokevirtual 234, 3), (.athrow, 0), (.athrow, 0), (.ifCond .ne 14, 3), (.athrow, 0), (.athrow, 0), (.aload_n 0, 1)], [(.bipush 61, 2), (.athrow, 0), (.invokevirtual 234, 3), (.athrow, 0), (.athrow, 0), (.ifCond .ne 5, 3), (.athrow, 0), (.athrow, 0)], [(.iload_n 1, 1), (.ireturn, 1), (.aload_n 0, 1), (.getfield 189, 3), (.athrow, 0), (.athrow, 0), (.ldc2_w 256, 3), (.athrow, 0)], [(.athrow, 0), (.lcmp, 1), (.ifCond .ne 7, 3), (.athrow, 0), (.athrow, 0), (.iconst 1, 1), (.goto 4, 3), (.athrow, 0)], [(.athrow, 0), (.iconst 0, 1), (.istore_n 2, 1), (.aload_n 0, 1), (.invokevirtual 209, 3), (.athrow, 0), (.athrow, 0), (.aload_n 0, 1)], [(.invokevirtual 253, 3), (.athrow, 0), (.athrow, 0), (.istore_n 3, 1), (.iload_n 2, 1), (.ifCond .eq 11, 3), (.athrow, 0), (.athrow, 0)], [(.iload_n 1, 1), (.iload_n 3, 1), (.if_icmp .ge 15, 3), (.athrow, 0), (.athrow, 0), (.goto 8, 3), (.athrow, 0), (.athrow, 0)], [(.iload_n 1, 1), (.iload_n 3, 1), (.if_icmp .ne 7, 3), (.athrow, 0), (.athrow, 0), (.iconst 1, 1), (.goto 4, 3), (.athrow, 0)], [(.athrow, 0), (.iconst 0, 1), (.ireturn, 1)]]
def xt146 : xTb := [[(.aload_n 0, 1), (.invokevirtual 258, 3), (.athrow, 0), (.athrow, 0), (.istore_n 1, 1), (.aload_n 0, 1), (.bipush 97, 2), (.athrow, 0)], [(.bipush 110, 2), (.athrow, 0), (.bipush 100, 2), (.athrow, 0), (.iconst 0, 1), (.iconst 0, 1), (.iconst 0, 1), (.iconst 0, 1)], [(.iconst 0, 1), (.invokevirtual 212, 3), (.athrow, 0), (.athrow, 0), (.ifCond .eq 29, 3), (.athrow, 0), (.athrow, 0), (.aload_n 0, 1)], [(.invokevirtual 209, 3), (.athrow, 0), (.athrow, 0), (.aload_n 0, 1), (.invokevirtual 258, 3), (.athrow, 0), (.athrow, 0), (.istore_n 2, 1)], [(.iload_n 1, 1), (.ifCond .eq 11, 3), (.athrow, 0), (.athrow, 0), (.iload_n 2, 1), (.ifCond .eq 7, 3), (.athrow, 0), (.athrow, 0)], [(.iconst 1, 1), (.goto 4, 3), (.athrow, 0), (.athrow, 0), (.iconst 0, 1), (.istore_n 1, 1), (.goto (-41), 3), (.athrow, 0)], [(.athrow, 0), (.iload_n 1, 1), (.ireturn, 1)]]
def xt147 : xTb := [[(.aload_n 0, 1), (.invokevirtual 261, 3), (.athrow, 0), (.athrow, 0), (.istore_n 1, 1), (.aload_n 0, 1), (.bipush 111, 2), (.athrow, 0)], [(.bipush 114, 2), (.athrow, 0), (.iconst 0, 1), (.iconst 0, 1), (.iconst 0, 1), (.iconst 0, 1), (.iconst 0, 1), (.iconst 0, 1)], [(.invokevirtual 212, 3), (.athrow, 0), (.athrow, 0), (.ifCond .eq 29, 3), (.athrow, 0), (.athrow, 0), (.aload_n 0, 1), (.invokevirtual 209, 3)], [(.athrow, 0), (.athrow, 0), (.aload_n 0, 1), (.invokevirtual 261, 3), (.athrow, 0), (.athrow, 0), (.istore_n 2, 1), (.iload_n 1, 1)], [(.ifCond .ne 7, 3), (.athrow, 0), (.athrow, 0), (.iload_n 2, 1), (.ifCond .eq 7, 3), (.athrow, 0), (.athrow, 0), (.iconst 1, 1)], [(.goto 4, 3), (.athrow, 0), (.athrow, 0), (.iconst 0, 1), (.istore_n 1, 1), (.goto (-40), 3), (.athrow, 0), (.athrow, 0)], [(.iload_n 1, 1), (.ireturn, 1)]]
def xt148 : xTb := [[(.iconst 0, 1), (.istore_n 1, 1), (.aload_n 0, 1), (.bipush 45, 2), (.athrow, 0), (.invokevirtual 234, 3), (.athrow, 0), (.athrow, 0)], [(.ifCond .eq 29, 3), (.athrow, 0), (.athrow, 0), (.aload_n 0, 1), (.invokevirtual 237, 3), (.athrow, 0), (.athrow, 0), (.ifCond .eq 146, 3)], [(.athrow, 0), (.athrow, 0), (.aload_n 0, 1), (.invokevirtual 245, 3), (.athrow, 0), (.athrow, 0), (.ineg, 1), (.istore_n 1, 1)], [(.aload_n 0, 1), (.dup, 1), (.getfield 203, 3), (.athrow, 0), (.athrow, 0), (.iconst 1, 1), (.isub, 1), (.putfield 203, 3)], [(.athrow, 0), (.athrow, 0), (.goto 127, 3), (.athrow, 0), (.athrow, 0), (.aload_n 0, 1), (.bipush 40, 2), (.athrow, 0)], [(.invokevirtual 234, 3), (.athrow, 0), (.athrow, 0), (.ifCond .eq 52, 3), (.athrow, 0), (.athrow, 0), (.aload_n 0, 1), (.invokevirtual 237, 3)], [(.athrow, 0), (.athrow, 0), (.ifCond .eq 111, 3), (.athrow, 0), (.athrow, 0), (.aload_n 0, 1), (.invokevirtual 264, 3), (.athrow, 0)], [(.athrow, 0), (.istore_n 1, 1), (.aload_n 0, 1), (.bipush 41, 2), (.athrow, 0), (.invokevirtual 234, 3), (.athrow, 0), (.athrow, 0)], [(.ifCond .ne 7, 3), (.athrow, 0), (.athrow, 0), (.aload_n 0, 1), (.invokevirtual 206, 3), (.athrow, 0), (.athrow, 0), (.aload_n 0, 1)], [(.dup, 1), (.getfield 203, 3), (.athrow, 0), (.athrow, 0), (.iconst 1, 1), (.isub, 1), (.putfield 203, 3), (.athrow, 0)], [(.athrow, 0), (.aload_n 0, 1), (.getfield 193, 3), (.athrow, 0), (.athrow, 0), (.ifCond .ne 76, 3), (.athrow, 0), (.athrow, 0)], [(.aload_n 0, 1), (.invokevirtual 209, 3), (.athrow, 0), (.athrow, 0), (.goto 69, 3), (.athrow, 0), (.athrow, 0), (.aload_n 0, 1)], [(.getfield 193, 3), (.athrow, 0), (.athrow, 0), (.ifCond .ne 24, 3), (.athrow, 0), (.athrow, 0), (.aload_n 0, 1), (.getfield 178, 3)], [(.athrow, 0), (.athrow, 0), (.iconst 2, 1), (.if_icmp .ne 16, 3), (.athrow, 0), (.athrow, 0), (.aload_n 0, 1), (.getfield 189, 3)], [(.athrow, 0), (.athrow, 0), (.l2i, 1), (.istore_n 1, 1), (.aload_n 0, 1), (.invokevirtual 209, 3), (.athrow, 0), (.athrow, 0)], [(.goto 41, 3), (.athrow, 0), (.athrow, 0), (.aload_n 0, 1), (.getfield 193, 3), (.athrow, 0), (.athrow, 0), (.ifCond .ne 30, 3)], [(.athrow, 0), (.athrow, 0), (.aload_n 0, 1), (.getfield 178, 3), (.athrow, 0), (.athrow, 0), (.iconst 1, 1), (.if_icmp .ne 22, 3)], [(.athrow, 0), (.athrow, 0), (.aload_n 0, 1), (.invokevirtual 241, 3), (.athrow, 0), (.athrow, 0), (.istore_n 1, 1), (.aload_n 0, 1)], [(.getfield 193, 3), (.athrow, 0), (.athrow, 0), (.ifCond .ne 14, 3), (.athrow, 0), (.athrow, 0), (.aload_n 0, 1), (.invokevirtual 209, 3)], [(.athrow, 0), (.athrow, 0), (.goto 7, 3), (.athrow, 0), (.athrow, 0), (.aload_n 0, 1), (.invokevirtual 206, 3), (.athrow, 0)], [(.athrow, 0), (.iload_n 1, 1), (.ireturn, 1)]]
def xt149 : xTb := [[(.aload_n 0, 1), (.invokevirtual 267, 3), (.athrow, 0), (.athrow, 0), (.istore_n 1, 1), (.aload_n 0, 1), (.bipush 42, 2), (.athrow, 0)], [(.invokevirtual 234, 3), (.athrow, 0), (.athrow, 0), (.ifCond .eq 17, 3), (.athrow, 0), (.athrow, 0), (.aload_n 0, 1), (.invokevirtual 209, 3)], [(.athrow, 0), (.athrow, 0), (.iload_n 1, 1), (.aload_n 0, 1), (.invokevirtual 267, 3), (.athrow, 0), (.athrow, 0), (.imul, 1)], [(.istore_n 1, 1), (.goto (-20), 3), (.athrow, 0), (.athrow, 0), (.iload_n 1, 1), (.ireturn, 1)]]
def xt150 : xTb := [[(.aload_n 0, 1), (.invokevirtual 270, 3), (.athrow, 0), (.athrow, 0), (.istore_n 1, 1), (.aload_n 0, 1), (.bipush 43, 2), (.athrow, 0)], [(.invokevirtual 234, 3), (.athrow, 0), (.athrow, 0), (.ifCond .ne 12, 3), (.athrow, 0), (.athrow, 0), (.aload_n 0, 1), (.bipush 45, 2)], [(.athrow, 0), (.invokevirtual 234, 3), (.athrow, 0), (.athrow, 0), (.ifCond .eq 46, 3), (.athrow, 0), (.athrow, 0), (.aload_n 0, 1)], [(.getfield 189, 3), (.athrow, 0), (.athrow, 0), (.ldc2_w 251, 3), (.athrow, 0), (.athrow, 0), (.lcmp, 1), (.ifCond .ne 7, 3)], [(.athrow, 0), (.athrow, 0), (.iconst 1, 1), (.goto 4, 3), (.athrow, 0), (.athrow, 0), (.iconst 0, 1), (.istore_n 2, 1)], [(.aload_n 0, 1), (.invokevirtual 209, 3), (.athrow, 0), (.athrow, 0), (.aload_n 0, 1), (.invokevirtual 270, 3), (.athrow, 0), (.athrow, 0)], [(.istore_n 3, 1), (.iload_n 2, 1), (.ifCond .eq 9, 3), (.athrow, 0), (.athrow, 0), (.iload_n 1, 1), (.iload_n 3, 1), (.iadd, 1)], [(.goto 6, 3), (.athrow, 0), (.athrow, 0), (.iload_n 1, 1), (.iload_n 3, 1), (.isub, 1), (.istore_n 1, 1), (.goto (-58), 3)], [(.athrow, 0), (.athrow, 0), (.iload_n 1, 1), (.ireturn, 1)]]
def xt151 : xTb := [[(.aload_n 0, 1), (.bipush 110, 2), (.athrow, 0), (.bipush 111, 2), (.athrow, 0), (.bipush 116, 2), (.athrow, 0), (.iconst 0, 1)], [(.iconst 0, 1), (.iconst 0, 1), (.iconst 0, 1), (.iconst 0, 1), (.invokevirtual 212, 3), (.athrow, 0), (.athrow, 0), (.ifCond .eq 37, 3)], [(.athrow, 0), (.athrow, 0), (.aload_n 0, 1), (.invokevirtual 237, 3), (.athrow, 0), (.athrow, 0), (.ifCond .ne 5, 3), (.athrow, 0)], [(.athrow, 0), (.iconst 0, 1), (.ireturn, 1), (.aload_n 0, 1), (.invokevirtual 258, 3), (.athrow, 0), (.athrow, 0), (.istore_n 1, 1)], [(.aload_n 0, 1), (.dup, 1), (.getfield 203, 3), (.athrow, 0), (.athrow, 0), (.iconst 1, 1), (.isub, 1), (.putfield 203, 3)], [(.athrow, 0), (.athrow, 0), (.iload_n 1, 1), (.ifCond .ne 7, 3), (.athrow, 0), (.athrow, 0), (.iconst 1, 1), (.goto 4, 3)], [(.athrow, 0), (.athrow, 0), (.iconst 0, 1), (.ireturn, 1), (.aload_n 0, 1), (.invokevirtual 273, 3), (.athrow, 0), (.athrow, 0)], [(.istore_n 1, 1), (.aload_n 0, 1), (.bipush 60, 2), (.athrow, 0), (.invokevirtual 234, 3), (.athrow, 0), (.athrow, 0), (.ifCond .ne 14, 3)], [(.athrow, 0), (.athrow, 0), (.aload_n 0, 1), (.bipush 61, 2), (.athrow, 0), (.invokevirtual 234, 3), (.athrow, 0), (.athrow, 0)], [(.ifCond .ne 5, 3), (.athrow, 0), (.athrow, 0), (.iload_n 1, 1), (.ireturn, 1), (.aload_n 0, 1), (.getfield 189, 3), (.athrow, 0)], [(.athrow, 0), (.ldc2_w 256, 3), (.athrow, 0), (.athrow, 0), (.lcmp, 1), (.ifCond .ne 7, 3), (.athrow, 0), (.athrow, 0)], [(.iconst 1, 1), (.goto 4, 3), (.athrow, 0), (.athrow, 0), (.iconst 0, 1), (.istore_n 2, 1), (.aload_n 0, 1), (.invokevirtual 209, 3)], [(.athrow, 0), (.athrow, 0), (.aload_n 0, 1), (.invokevirtual 273, 3), (.athrow, 0), (.athrow, 0), (.istore_n 3, 1), (.iload_n 2, 1)], [(.ifCond .eq 11, 3), (.athrow, 0), (.athrow, 0), (.iload_n 1, 1), (.iload_n 3, 1), (.if_icmp .ge 15, 3), (.athrow, 0), (.athrow, 0)], [(.goto 8, 3), (.athrow, 0), (.athrow, 0), (.iload_n 1, 1), (.iload_n 3, 1), (.if_icmp .ne 7, 3), (.athrow, 0), (.athrow, 0)], [(.iconst 1, 1), (.goto 4, 3), (.athrow, 0), (.athrow, 0), (.iconst 0, 1), (.ireturn, 1)]]
def xt152 : xTb := [[(.aload_n 0, 1), (.invokevirtual 276, 3), (.athrow, 0), (.athrow, 0), (.istore_n 1, 1), (.aload_n 0, 1), (.bipush 97, 2), (.athrow, 0)], [(.bipush 110, 2), (.athrow, 0), (.bipush 100, 2), (.athrow, 0), (.iconst 0, 1), (.iconst 0, 1), (.iconst 0, 1), (.iconst 0, 1)], [(.iconst 0, 1), (.invokevirtual 212, 3), (.athrow, 0), (.athrow, 0), (.ifCond .eq 29, 3), (.athrow, 0), (.athrow, 0), (.aload_n 0, 1)], [(.invokevirtual 209, 3), (.athrow, 0), (.athrow, 0), (.aload_n 0, 1), (.invokevirtual 276, 3), (.athrow, 0), (.athrow, 0), (.istore_n 2, 1)], [(.iload_n 1, 1), (.ifCond .eq 11, 3), (.athrow, 0), (.athrow, 0), (.iload_n 2, 1), (.ifCond .eq 7, 3), (.athrow, 0), (.athrow, 0)], [(.iconst 1, 1), (.goto 4, 3), (.athrow, 0), (.athrow, 0), (.iconst 0, 1), (.istore_n 1, 1), (.goto (-41), 3), (.athrow, 0)], [(.athrow, 0), (.iload_n 1, 1), (.ireturn, 1)]]
def xt153 : xTb := [[(.aload_n 0, 1), (.invokevirtual 279, 3), (.athrow, 0), (.athrow, 0), (.istore_n 1, 1), (.aload_n 0, 1), (.bipush 111, 2), (.athrow, 0)], [(.bipush 114, 2), (.athrow, 0), (.iconst 0, 1), (.iconst 0, 1), (.iconst 0, 1), (.iconst 0, 1), (.iconst 0, 1), (.iconst 0, 1)], [(.invokevirtual 212, 3), (.athrow, 0), (.athrow, 0), (.ifCond .eq 29, 3), (.athrow, 0), (.athrow, 0), (.aload_n 0, 1), (.invokevirtual 209, 3)], [(.athrow, 0), (.athrow, 0), (.aload_n 0, 1), (.invokevirtual 279, 3), (.athrow, 0), (.athrow, 0), (.istore_n 2, 1), (.iload_n 1, 1)], [(.ifCond .ne 7, 3), (.athrow, 0), (.athrow, 0), (.iload_n 2, 1), (.ifCond .eq 7, 3), (.athrow, 0), (.athrow, 0), (.iconst 1, 1)], [(.goto 4, 3), (.athrow, 0), (.athrow, 0), (.iconst 0, 1), (.istore_n 1, 1), (.goto (-40), 3), (.athrow, 0), (.athrow, 0)], [(.iload_n 1, 1), (.ireturn, 1)]]
def xt154 : xTb := [[(.iconst 0, 1), (.istore_n 1, 1), (.aload_n 0, 1), (.bipush 45, 2), (.athrow, 0), (.invokevirtual 234, 3), (.athrow, 0), (.athrow, 0)], [(.ifCond .eq 29, 3), (.athrow, 0), (.athrow, 0), (.aload_n 0, 1), (.invokevirtual 237, 3), (.athrow, 0), (.athrow, 0), (.ifCond .eq 146, 3)], [(.athrow, 0), (.athrow, 0), (.aload_n 0, 1), (.invokevirtual 267, 3), (.athrow, 0), (.athrow, 0), (.ineg, 1), (.istore_n 1, 1)], [(.aload_n 0, 1), (.dup, 1), (.getfield 203, 3), (.athrow, 0), (.athrow, 0), (.iconst 1, 1), (.isub, 1), (.putfield 203, 3)], [(.athrow, 0), (.athrow, 0), (.goto 127, 3), (.athrow, 0), (.athrow, 0), (.aload_n 0, 1), (.bipush 40, 2), (.athrow, 0)], [(.invokevirtual 234, 3), (.athrow, 0), (.athrow, 0), (.ifCond .eq 52, 3), (.athrow, 0), (.athrow, 0), (.aload_n 0, 1), (.invokevirtual 237, 3)], [(.athrow, 0), (.athrow, 0), (.ifCond .eq 111, 3), (.athrow, 0), (.athrow, 0), (.aload_n 0, 1), (.invokevirtual 282, 3), (.athrow, 0)], [(.athrow, 0), (.istore_n 1, 1), (.aload_n 0, 1), (.bipush 41, 2), (.athrow, 0), (.invokevirtual 234, 3), (.athrow, 0), (.athrow, 0)], [(.ifCond .ne 7, 3), (.athrow, 0), (.athrow, 0), (.aload_n 0, 1), (.invokevirtual 206, 3), (.athrow, 0), (.athrow, 0), (.aload_n 0, 1)], [(.dup, 1), (.getfield 203, 3), (.athrow, 0), (.athrow, 0), (.iconst 1, 1), (.isub, 1), (.putfield 203, 3), (.athrow, 0)], [(.athrow, 0), (.aload_n 0, 1), (.getfield 193, 3), (.athrow, 0), (.athrow, 0), (.ifCond .ne 76, 3), (.athrow, 0), (.athrow, 0)], [(.aload_n 0, 1), (.invokevirtual 209, 3), (.athrow, 0), (.athrow, 0), (.goto 69, 3), (.athrow, 0), (.athrow, 0), (.aload_n 0, 1)], [(.getfield 193, 3), (.athrow, 0), (.athrow, 0), (.ifCond .ne 24, 3), (.athrow, 0), (.athrow, 0), (.aload_n 0, 1), (.getfield 178, 3)], [(.athrow, 0), (.athrow, 0), (.iconst 2, 1), (.if_icmp .ne 16, 3), (.athrow, 0), (.athrow, 0), (.aload_n 0, 1), (.getfield 189, 3)], [(.athrow, 0), (.athrow, 0), (.l2i, 1), (.istore_n 1, 1), (.aload_n 0, 1), (.invokevirtual 209, 3), (.athrow, 0), (.athrow, 0)], [(.goto 41, 3), (.athrow, 0), (.athrow, 0), (.aload_n 0, 1), (.getfield 193, 3), (.athrow, 0), (.athrow, 0), (.ifCond .ne 30, 3)], [(.athrow, 0), (.athrow, 0), (.aload_n 0, 1), (.getfield 178, 3), (.athrow, 0), (.athrow, 0), (.iconst 1, 1), (.if_icmp .ne 22, 3)], [(.athrow, 0), (.athrow, 0), (.aload_n 0, 1), (.invokevirtual 241, 3), (.athrow, 0), (.athrow, 0), (.istore_n 1, 1), (.aload_n 0, 1)], [(.getfield 193, 3), (.athrow, 0), (.athrow, 0), (.ifCond .ne 14, 3), (.athrow, 0), (.athrow, 0), (.aload_n 0, 1), (.invokevirtual 209, 3)], [(.athrow, 0), (.athrow, 0), (.goto 7, 3), (.athrow, 0), (.athrow, 0), (.aload_n 0, 1), (.invokevirtual 206, 3), (.athrow, 0)], [(.athrow, 0), (.iload_n 1, 1), (.ireturn, 1)]]
def xt155 : xTb := [[(.aload_n 0, 1), (.invokevirtual 285, 3), (.athrow, 0), (.athrow, 0), (.istore_n 1, 1), (.aload_n 0, 1), (.bipush 42, 2), (.athrow, 0)], [(.invokevirtual 234, 3), (.athrow, 0), (.athrow, 0), (.ifCond .eq 17, 3), (.athrow, 0), (.athrow, 0), (.aload_n 0, 1), (.invokevirtual 209, 3)], [(.athrow, 0), (.athrow, 0), (.iload_n 1, 1), (.aload_n 0, 1), (.invokevirtual 285, 3), (.athrow, 0), (.athrow, 0), (.imul, 1)], [(.istore_n 1, 1), (.goto (-20), 3), (.athrow, 0), (.athrow, 0), (.iload_n 1, 1), (.ireturn, 1)]]
def xt156 : xTb := [[(.aload_n 0, 1), (.invokevirtual 288, 3), (.athrow, 0), (.athrow, 0), (.istore_n 1, 1), (.aload_n 0, 1), (.bipush 43, 2), (.athrow, 0)], [(.invokevirtual 234, 3), (.athrow, 0), (.athrow, 0), (.ifCond .ne 12, 3), (.athrow, 0), (.athrow, 0), (.aload_n 0, 1), (.bipush 45, 2)], [(.athrow, 0), (.invokevirtual 234, 3), (.athrow, 0), (.athrow, 0), (.ifCond .eq 46, 3), (.athrow, 0), (.athrow, 0), (.aload_n 0, 1)], [(.getfield 189, 3), (.athrow, 0), (.athrow, 0), (.ldc2_w 251, 3), (.athrow, 0), (.athrow, 0), (.lcmp, 1), (.ifCond .ne 7, 3)], [(.athrow, 0), (.athrow, 0), (.iconst 1, 1), (.goto 4, 3), (.athrow, 0), (.athrow, 0), (.iconst 0, 1), (.istore_n 2, 1)], [(.aload_n 0, 1), (.invokevirtual 209, 3), (.athrow, 0), (.athrow, 0), (.aload_n 0, 1), (.invokevirtual 288, 3), (.athrow, 0), (.athrow, 0)], [(.istore_n 3, 1), (.iload_n 2, 1), (.ifCond .eq 9, 3), (.athrow, 0), (.athrow, 0), (.iload_n 1, 1), (.iload_n 3, 1), (.iadd, 1)], [(.goto 6, 3), (.athrow, 0), (.athrow, 0), (.iload_n 1, 1), (.iload_n 3, 1), (.isub, 1), (.istore_n 1, 1), (.goto (-58), 3)], [(.athrow, 0), (.athrow, 0), (.iload_n 1, 1), (.ireturn, 1)]]
def xt157 : xTb := [[(.aload_n 0, 1), (.bipush 110, 2), (.athrow, 0), (.bipush 111, 2), (.athrow, 0), (.bipush 116, 2), (.athrow, 0), (.iconst 0, 1)], [(.iconst 0, 1), (.iconst 0, 1), (.iconst 0, 1), (.iconst 0, 1), (.invokevirtual 212, 3), (.athrow, 0), (.athrow, 0), (.ifCond .eq 37, 3)], [(.athrow, 0), (.athrow, 0), (.aload_n 0, 1), (.invokevirtual 237, 3), (.athrow, 0), (.athrow, 0), (.ifCond .ne 5, 3), (.athrow, 0)], [(.athrow, 0), (.iconst 0, 1), (.ireturn, 1), (.aload_n 0, 1), (.invokevirtual 276, 3), (.athrow, 0), (.athrow, 0), (.istore_n 1, 1)], [(.aload_n 0, 1), (.dup, 1), (.getfield 203, 3), (.athrow, 0), (.athrow, 0), (.iconst 1, 1), (.isub, 1), (.putfield 203, 3)], [(.athrow, 0), (.athrow, 0), (.iload_n 1, 1), (.ifCond .ne 7, 3), (.athrow, 0), (.athrow, 0), (.iconst 1, 1), (.goto 4, 3)], [(.athrow, 0), (.athrow, 0), (.iconst 0, 1), (.ireturn, 1), (.aload_n 0, 1), (.invokevirtual 291, 3), (.athrow, 0), (.athrow, 0)], [(.istore_n 1, 1), (.aload_n 0, 1), (.bipush 60, 2), (.athrow, 0), (.invokevirtual 234, 3), (.athrow, 0), (.athrow, 0), (.ifCond .ne 14, 3)], [(.athrow, 0), (.athrow, 0), (.aload_n 0, 1), (.bipush 61, 2), (.athrow, 0), (.invokevirtual 234, 3), (.athrow, 0), (.athrow, 0)], [(.ifCond .ne 5, 3), (.athrow, 0), (.athrow, 0), (.iload_n 1, 1), (.ireturn, 1), (.aload_n 0, 1), (.getfield 189, 3), (.athrow, 0)], [(.athrow, 0), (.ldc2_w 256, 3), (.athrow, 0), (.athrow, 0), (.lcmp, 1), (.ifCond .ne 7, 3), (.athrow, 0), (.athrow, 0)], [(.iconst 1, 1), (.goto 4, 3), (.athrow, 0), (.athrow, 0), (.iconst 0, 1), (.istore_n 2, 1), (.aload_n 0, 1), (.invokevirtual 209, 3)], [(.athrow, 0), (.athrow, 0), (.aload_n 0, 1), (.invokevirtual 291, 3), (.athrow, 0), (.athrow, 0), (.istore_n 3, 1), (.iload_n 2, 1)], [(.ifCond .eq 11, 3), (.athrow, 0), (.athrow, 0), (.iload_n 1, 1), (.iload_n 3, 1), (.if_icmp .ge 15, 3), (.athrow, 0), (.athrow, 0)], [(.goto 8, 3), (.athrow, 0), (.athrow, 0), (.iload_n 1, 1), (.iload_n 3, 1), (.if_icmp .ne 7, 3), (.athrow, 0), (.athrow, 0)], [(.iconst 1, 1), (.goto 4, 3), (.athrow, 0), (.athrow, 0), (.iconst 0, 1), (.ireturn, 1)]]
def xt158 : xTb := [[(.aload_n 0, 1), (.invokevirtual 294, 3), (.athrow, 0), (.athrow, 0), (.istore_n 1, 1), (.aload_n 0, 1), (.bipush 97, 2), (.athrow, 0)], [(.bipush 110, 2), (.athrow, 0), (.bipush 100, 2), (.athrow, 0), (.iconst 0, 1), (.iconst 0, 1), (.iconst 0, 1), (.iconst 0, 1)], [(.iconst 0, 1), (.invokevirtual 212, 3), (.athrow, 0), (.athrow, 0), (.ifCond .eq 29, 3), (.athrow, 0), (.athrow, 0), (.aload_n 0, 1)], [(.invokevirtual 209, 3), (.athrow, 0), (.athrow, 0), (.aload_n 0, 1), (.invokevirtual 294, 3), (.athrow, 0), (.athrow, 0), (.istore_n 2, 1)], [(.iload_n 1, 1), (.ifCond .eq 11, 3), (.athrow, 0), (.athrow, 0), (.iload_n 2, 1), (.ifCond .eq 7, 3), (.athrow, 0), (.athrow, 0)], [(.iconst 1, 1), (.goto 4, 3), (.athrow, 0), (.athrow, 0), (.iconst 0, 1), (.istore_n 1, 1), (.goto (-41), 3), (.athrow, 0)], [(.athrow, 0), (.iload_n 1, 1), (.ireturn, 1)]]
def xt159 : xTb := [[(.aload_n 0, 1), (.invokevirtual 297, 3), (.athrow, 0), (.athrow, 0), (.istore_n 1, 1), (.aload_n 0, 1), (.bipush 111, 2), (.athrow, 0)], [(.bipush 114, 2), (.athrow, 0), (.iconst 0, 1), (.iconst 0, 1), (.iconst 0, 1), (.iconst 0, 1), (.iconst 0, 1), (.iconst 0, 1)], [(.invokevirtual 212, 3), (.athrow, 0), (.athrow, 0), (.ifCond .eq 29, 3), (.athrow, 0), (.athrow, 0), (.aload_n 0, 1), (.invokevirtual 209, 3)], [(.athrow, 0), (.athrow, 0), (.aload_n 0, 1), (.invokevirtual 297, 3), (.athrow, 0), (.athrow, 0), (.istore_n 2, 1), (.iload_n 1, 1)], [(.ifCond .ne 7, 3), (.athrow, 0), (.athrow, 0), (.iload_n 2, 1), (.ifCond .eq 7, 3), (.athrow, 0), (.athrow, 0), (.iconst 1, 1)], [(.goto 4, 3), (.athrow, 0), (.athrow, 0), (.iconst 0, 1), (.istore_n 1, 1), (.goto (-40), 3), (.athrow, 0), (.athrow, 0)], [(.iload_n 1, 1), (.ireturn, 1)]]
def xt160 : xTb := [[(.iconst 0, 1), (.istore_n 1, 1), (.aload_n 0, 1), (.bipush 45, 2), (.athrow, 0), (.invokevirtual 234, 3), (.athrow, 0), (.athrow, 0)], [(.ifCond .eq 29, 3), (.athrow, 0), (.athrow, 0), (.aload_n 0, 1), (.invokevirtual 237, 3), (.athrow, 0), (.athrow, 0), (.ifCond .eq 146, 3)], [(.athrow, 0), (.athrow, 0), (.aload_n 0, 1), (.invokevirtual 285, 3), (.athrow, 0), (.athrow, 0), (.ineg, 1), (.istore_n 1, 1)], [(.aload_n 0, 1), (.dup, 1), (.getfield 203, 3), (.athrow, 0), (.athrow, 0), (.iconst 1, 1), (.isub, 1), (.putfield 203, 3)], [(.athrow, 0), (.athrow, 0), (.goto 127, 3), (.athrow, 0), (.athrow, 0), (.aload_n 0, 1), (.bipush 40, 2), (.athrow, 0)], [(.invokevirtual 234, 3), (.athrow, 0), (.athrow, 0), (.ifCond .eq 52, 3), (.athrow, 0), (.athrow, 0), (.aload_n 0, 1), (.invokevirtual 237, 3)], [(.athrow, 0), (.athrow, 0), (.ifCond .eq 111, 3), (.athrow, 0), (.athrow, 0), (.aload_n 0, 1), (.invokevirtual 300, 3), (.athrow, 0)], [(.athrow, 0), (.istore_n 1, 1), (.aload_n 0, 1), (.bipush 41, 2), (.athrow, 0), (.invokevirtual 234, 3), (.athrow, 0), (.athrow, 0)], [(.ifCond .ne 7, 3), (.athrow, 0), (.athrow, 0), (.aload_n 0, 1), (.invokevirtual 206, 3), (.athrow, 0), (.athrow, 0), (.aload_n 0, 1)], [(.dup, 1), (.getfield 203, 3), (.athrow, 0), (.athrow, 0), (.iconst 1, 1), (.isub, 1), (.putfield 203, 3), (.athrow, 0)], [(.athrow, 0), (.aload_n 0, 1), (.getfield 193, 3), (.athrow, 0), (.athrow, 0), (.ifCond .ne 76, 3), (.athrow, 0), (.athrow, 0)], [(.aload_n 0, 1), (.invokevirtual 209, 3), (.athrow, 0), (.athrow, 0), (.goto 69, 3), (.athrow, 0), (.athrow, 0), (.aload_n 0, 1)], [(.getfield 193, 3), (.athrow, 0), (.athrow, 0), (.ifCond .ne 24, 3), (.athrow, 0), (.athrow, 0), (.aload_n 0, 1), (.getfield 178, 3)], [(.athrow, 0), (.athrow, 0), (.iconst 2, 1), (.if_icmp .ne 16, 3), (.athrow, 0), (.athrow, 0), (.aload_n 0, 1), (.getfield 189, 3)], [(.athrow, 0), (.athrow, 0), (.l2i, 1), (.istore_n 1, 1), (.aload_n 0, 1), (.invokevirtual 209, 3), (.athrow, 0), (.athrow, 0)], [(.goto 41, 3), (.athrow, 0), (.athrow, 0), (.aload_n 0, 1), (.getfield 193, 3), (.athrow, 0), (.athrow, 0), (.ifCond .ne 30, 3)], [(.athrow, 0), (.athrow, 0), (.aload_n 0, 1), (.getfield 178, 3), (.athrow, 0), (.athrow, 0), (.iconst 1, 1), (.if_icmp .ne 22, 3)], [(.athrow, 0), (.athrow, 0), (.aload_n 0, 1), (.invokevirtual 241, 3), (.athrow, 0), (.athrow, 0), (.istore_n 1, 1), (.aload_n 0, 1)], [(.getfield 193, 3), (.athrow, 0), (.athrow, 0), (.ifCond .ne 14, 3), (.athrow, 0), (.athrow, 0), (.aload_n 0, 1), (.invokevirtual 209, 3)], [(.athrow, 0), (.athrow, 0), (.goto 7, 3), (.athrow, 0), (.athrow, 0), (.aload_n 0, 1), (.invokevirtual 206, 3), (.athrow, 0)], [(.athrow, 0), (.iload_n 1, 1), (.ireturn, 1)]]
def xt161 : xTb := [[(.aload_n 0, 1), (.invokevirtual 303, 3), (.athrow, 0), (.athrow, 0), (.istore_n 1, 1), (.aload_n 0, 1), (.bipush 42, 2), (.athrow, 0)], [(.invokevirtual 234, 3), (.athrow, 0), (.athrow, 0), (.ifCond .eq 17, 3), (.athrow, 0), (.athrow, 0), (.aload_n 0, 1), (.invokevirtual 209, 3)], [(.athrow, 0), (.athrow, 0), (.iload_n 1, 1), (.aload_n 0, 1), (.invokevirtual 303, 3), (.athrow, 0), (.athrow, 0), (.imul, 1)], [(.istore_n 1, 1), (.goto (-20), 3), (.athrow, 0), (.athrow, 0), (.iload_n 1, 1), (.ireturn, 1)]]
def xt162 : xTb := [[(.aload_n 0, 1), (.invokevirtual 306, 3), (.athrow, 0), (.athrow, 0), (.istore_n 1, 1), (.aload_n 0, 1), (.bipush 43, 2), (.athrow, 0)], [(.invokevirtual 234, 3), (.athrow, 0), (.athrow, 0), (.ifCond .ne 12, 3), (.athrow, 0), (.athrow, 0), (.aload_n 0, 1), (.bipush 45, 2)], [(.athrow, 0), (.invokevirtual 234, 3), (.athrow, 0), (.athrow, 0), (.ifCond .eq 46, 3), (.athrow, 0), (.athrow, 0), (.aload_n 0, 1)], [(.getfield 189, 3), (.athrow, 0), (.athrow, 0), (.ldc2_w 251, 3), (.athrow, 0), (.athrow, 0), (.lcmp, 1), (.ifCond .ne 7, 3)], [(.athrow, 0), (.athrow, 0), (.iconst 1, 1), (.goto 4, 3), (.athrow, 0), (.athrow, 0), (.iconst 0, 1), (.istore_n 2, 1)], [(.aload_n 0, 1), (.invokevirtual 209, 3), (.athrow, 0), (.athrow, 0), (.aload_n 0, 1), (.invokevirtual 306, 3), (.athrow, 0), (.athrow, 0)], [(.istore_n 3, 1), (.iload_n 2, 1), (.ifCond .eq 9, 3), (.athrow, 0), (.athrow, 0), (.iload_n 1, 1), (.iload_n 3, 1), (.iadd, 1)], [(.goto 6, 3), (.athrow, 0), (.athrow, 0), (.iload_n 1, 1), (.iload_n 3, 1), (.isub, 1), (.istore_n 1, 1), (.goto (-58), 3)], [(.athrow, 0), (.athrow, 0), (.iload_n 1, 1), (.ireturn, 1)]]
def xt163 : xTb := [[(.aload_n 0, 1), (.bipush 110, 2), (.athrow, 0), (.bipush 111, 2), (.athrow, 0), (.bipush 116, 2), (.athrow, 0), (.iconst 0, 1)], [(.iconst 0, 1), (.iconst 0, 1), (.iconst 0, 1), (.iconst 0, 1), (.invokevirtual 212, 3), (.athrow, 0), (.athrow, 0), (.ifCond .eq 37, 3)], [(.athrow, 0), (.athrow, 0), (.aload_n 0, 1), (.invokevirtual 237, 3), (.athrow, 0), (.athrow, 0), (.ifCond .ne 5, 3), (.athrow, 0)], [(.athrow, 0), (.iconst 0, 1), (.ireturn, 1), (.aload_n 0, 1), (.invokevirtual 294, 3), (.athrow, 0), (.athrow, 0), (.istore_n 1, 1)], [(.aload_n 0, 1), (.dup, 1), (.getfield 203, 3), (.athrow, 0), (.athrow, 0), (.iconst 1, 1), (.isub, 1), (.putfield 203, 3)], [(.athrow, 0), (.athrow, 0), (.iload_n 1, 1), (.ifCond .ne 7, 3), (.athrow, 0), (.athrow, 0), (.iconst 1, 1), (.goto 4, 3)], [(.athrow, 0), (.athrow, 0), (.iconst 0, 1), (.ireturn, 1), (.aload_n 0, 1), (.invokevirtual 309, 3), (.athrow, 0), (.athrow, 0)], [(.istore_n 1, 1), (.aload_n 0, 1), (.bipush 60, 2), (.athrow, 0), (.invokevirtual 234, 3), (.athrow, 0), (.athrow, 0), (.ifCond .ne 14, 3)], [(.athrow, 0), (.athrow, 0), (.aload_n 0, 1), (.bipush 61, 2), (.athrow, 0), (.invokevirtual 234, 3), (.athrow, 0), (.athrow, 0)], [(.ifCond .ne 5, 3), (.athrow, 0), (.athrow, 0), (.iload_n 1, 1), (.ireturn, 1), (.aload_n 0, 1), (.getfield 189, 3), (.athrow, 0)], [(.athrow, 0), (.ldc2_w 256, 3), (.athrow, 0), (.athrow, 0), (.lcmp, 1), (.ifCond .ne 7, 3), (.athrow, 0), (.athrow, 0)], [(.iconst 1, 1), (.goto 4, 3), (.athrow, 0), (.athrow, 0), (.iconst 0, 1), (.istore_n 2, 1), (.aload_n 0, 1), (.invokevirtual 209, 3)], [(.athrow, 0), (.athrow, 0), (.aload_n 0, 1), (.invokevirtual 309, 3), (.athrow, 0), (.athrow, 0), (.istore_n 3, 1), (.iload_n 2, 1)], [(.ifCond .eq 11, 3), (.athrow, 0), (.athrow, 0), (.iload_n 1, 1), (.iload_n 3, 1), (.if_icmp .ge 15, 3), (.athrow, 0), (.athrow, 0)], [(.goto 8, 3), (.athrow, 0), (.athrow, 0), (.iload_n 1, 1), (.iload_n 3, 1), (.if_icmp .ne 7, 3), (.athrow, 0), (.athrow, 0)], [(.iconst 1, 1), (.goto 4, 3), (.athrow, 0), (.athrow, 0), (.iconst 0, 1), (.ireturn, 1)]]
def xt164 : xTb := [[(.aload_n 0, 1), (.invokevirtual 312, 3), (.athrow, 0), (.athrow, 0), (.istore_n 1, 1), (.aload_n 0, 1), (.bipush 97, 2), (.athrow, 0)], [(.bipush 110, 2), (.athrow, 0), (.bipush 100, 2), (.athrow, 0), (.iconst 0, 1), (.iconst 0, 1), (.iconst 0, 1), (.iconst 0, 1)], [(.iconst 0, 1), (.invokevirtual 212, 3), (.athrow, 0), (.athrow, 0), (.ifCond .eq 29, 3), (.athrow, 0), (.athrow, 0), (.aload_n 0, 1)], [(.invokevirtual 209, 3), (.athrow, 0), (.athrow, 0), (.aload_n 0, 1), (.invokevirtual 312, 3), (.athrow, 0), (.athrow, 0), (.istore_n 2, 1)], [(.iload_n 1, 1), (.ifCond .eq 11, 3), (.athrow, 0), (.athrow, 0), (.iload_n 2, 1), (.ifCond .eq 7, 3), (.athrow, 0), (.athrow, 0)], [(.iconst 1, 1), (.goto 4, 3), (.athrow, 0), (.athrow, 0), (.iconst 0, 1), (.istore_n 1, 1), (.goto (-41), 3), (.athrow, 0)], [(.athrow, 0), (.iload_n 1, 1), (.ireturn, 1)]]
def xt165 : xTb := [[(.aload_n 0, 1), (.invokevirtual 315, 3), (.athrow, 0), (.athrow, 0), (.istore_n 1, 1), (.aload_n 0, 1), (.bipush 111, 2), (.athrow, 0)], [(.bipush 114, 2), (.athrow, 0), (.iconst 0, 1), (.iconst 0, 1), (.iconst 0, 1), (.iconst 0, 1), (.iconst 0, 1), (.iconst 0, 1)], [(.invokevirtual 212, 3), (.athrow, 0), (.athrow, 0), (.ifCond .eq 29, 3), (.athrow, 0), (.athrow, 0), (.aload_n 0, 1), (.invokevirtual 209, 3)], [(.athrow, 0), (.athrow, 0), (.aload_n 0, 1), (.invokevirtual 315, 3), (.athrow, 0), (.athrow, 0), (.istore_n 2, 1), (.iload_n 1, 1)], [(.ifCond .ne 7, 3), (.athrow, 0), (.athrow, 0), (.iload_n 2, 1), (.ifCond .eq 7, 3), (.athrow, 0), (.athrow, 0), (.iconst 1, 1)], [(.goto 4, 3), (.athrow, 0), (.athrow, 0), (.iconst 0, 1), (.istore_n 1, 1), (.goto (-40), 3), (.athrow, 0), (.athrow, 0)], [(.iload_n 1, 1), (.ireturn, 1)]]
def xt166 : xTb := [[(.iconst 0, 1), (.istore_n 1, 1), (.aload_n 0, 1), (.bipush 45, 2), (.athrow, 0), (.invokevirtual 234, 3), (.athrow, 0), (.athrow, 0)], [(.ifCond .eq 29, 3), (.athrow, 0), (.athrow, 0), (.aload_n 0, 1), (.invokevirtual 237, 3), (.athrow, 0), (.athrow, 0), (.ifCond .eq 146, 3)], [(.athrow, 0), (.athrow, 0), (.aload_n 0, 1), (.invokevirtual 303, 3), (.athrow, 0), (.athrow, 0), (.ineg, 1), (.istore_n 1, 1)], [(.aload_n 0, 1), (.dup, 1), (.getfield 203, 3), (.athrow, 0), (.athrow, 0), (.iconst 1, 1), (.isub, 1), (.putfield 203, 3)], [(.athrow, 0), (.athrow, 0), (.goto 127, 3), (.athrow, 0), (.athrow, 0), (.aload_n 0, 1), (.bipush 40, 2), (.athrow, 0)], [(.invokevirtual 234, 3), (.athrow, 0), (.athrow, 0), (.ifCond .eq 52, 3), (.athrow, 0), (.athrow, 0), (.aload_n 0, 1), (.invokevirtual 237, 3)], [(.athrow, 0), (.athrow, 0), (.ifCond .eq 111, 3), (.athrow, 0), (.athrow, 0), (.aload_n 0, 1), (.invokevirtual 318, 3), (.athrow, 0)], [(.athrow, 0), (.istore_n 1, 1), (.aload_n 0, 1), (.bipush 41, 2), (.athrow, 0), (.invokevirtual 234, 3), (.athrow, 0), (.athrow, 0)], [(.ifCond .ne 7, 3), (.athrow, 0), (.athrow, 0), (.aload_n 0, 1), (.invokevirtual 206, 3), (.athrow, 0), (.athrow, 0), (.aload_n 0, 1)], [(.dup, 1), (.getfield 203, 3), (.athrow, 0), (.athrow, 0), (.iconst 1, 1), (.isub, 1), (.putfield 203, 3), (.athrow, 0)], [(.athrow, 0), (.aload_n 0, 1), (.getfield 193, 3), (.athrow, 0), (.athrow, 0), (.ifCond .ne 76, 3), (.athrow, 0), (.athrow, 0)], [(.aload_n 0, 1), (.invokevirtual 209, 3), (.athrow, 0), (.athrow, 0), (.goto 69, 3), (.athrow, 0), (.athrow, 0), (.aload_n 0, 1)], [(.getfield 193, 3), (.athrow, 0), (.athrow, 0), (.ifCond .ne 24, 3), (.athrow, 0), (.athrow, 0), (.aload_n 0, 1), (.getfield 178, 3)], [(.athrow, 0), (.athrow, 0), (.iconst 2, 1), (.if_icmp .ne 16, 3), (.athrow, 0), (.athrow, 0), (.aload_n 0, 1), (.getfield 189, 3)], [(.athrow, 0), (.athrow, 0), (.l2i, 1), (.istore_n 1, 1), (.aload_n 0, 1), (.invokevirtual 209, 3), (.athrow, 0), (.athrow, 0)], [(.goto 41, 3), (.athrow, 0), (.athrow, 0), (.aload_n 0, 1), (.getfield 193, 3), (.athrow, 0), (.athrow, 0), (.ifCond .ne 30, 3)], [(.athrow, 0), (.athrow, 0), (.aload_n 0, 1), (.getfield 178, 3), (.athrow, 0), (.athrow, 0), (.iconst 1, 1), (.if_icmp .ne 22, 3)], [(.athrow, 0), (.athrow, 0), (.aload_n 0, 1), (.invokevirtual 241, 3), (.athrow, 0), (.athrow, 0), (.istore_n 1, 1), (.aload_n 0, 1)], [(.getfield 193, 3), (.athrow, 0), (.athrow, 0), (.ifCond .ne 14, 3), (.athrow, 0), (.athrow, 0), (.aload_n 0, 1), (.invokevirtual 209, 3)], [(.athrow, 0), (.athrow, 0), (.goto 7, 3), (.athrow, 0), (.athrow, 0), (.aload_n 0, 1), (.invokevirtual 206, 3), (.athrow, 0)], [(.athrow, 0), (.iload_n 1, 1), (.ireturn, 1)]]
def xt167 : xTb := [[(.aload_n 0, 1), (.invokevirtual 321, 3), (.athrow, 0), (.athrow, 0), (.istore_n 1, 1), (.aload_n 0, 1), (.bipush 42, 2), (.athrow, 0)], [(.invokevirtual 234, 3), (.athrow, 0), (.athrow, 0), (.ifCond .eq 17, 3), (.athrow, 0), (.athrow, 0), (.aload_n 0, 1), (.invokevirtual 209, 3)], [(.athrow, 0), (.athrow, 0), (.iload_n 1, 1), (.aload_n 0, 1), (.invokevirtual 321, 3), (.athrow, 0), (.athrow, 0), (.imul, 1)], [(.istore_n 1, 1), (.goto (-20), 3), (.athrow, 0), (.athrow, 0), (.iload_n 1, 1), (.ireturn, 1)]]
def xt168 : xTb := [[(.aload_n 0, 1), (.invokevirtual 324, 3), (.athrow, 0), (.athrow, 0), (.istore_n 1, 1), (.aload_n 0, 1), (.bipush 43, 2), (.athrow, 0)], [(.invokevirtual 234, 3), (.athrow, 0), (.athrow, 0), (.ifCond .ne 12, 3), (.athrow, 0), (.athrow, 0), (.aload_n 0, 1), (.bipush 45, 2)], [(.athrow, 0), (.invokevirtual 234, 3), (.athrow, 0), (.athrow, 0), (.ifCond .eq 46, 3), (.athrow, 0), (.athrow, 0), (.aload_n 0, 1)], [(.getfield 189, 3), (.athrow, 0), (.athrow, 0), (.ldc2_w 251, 3), (.athrow, 0), (.athrow, 0), (.lcmp, 1), (.ifCond .ne 7, 3)], [(.athrow, 0), (.athrow, 0), (.iconst 1, 1), (.goto 4, 3), (.athrow, 0), (.athrow, 0), (.iconst 0, 1), (.istore_n 2, 1)], [(.aload_n 0, 1), (.invokevirtual 209, 3), (.athrow, 0), (.athrow, 0), (.aload_n 0, 1), (.invokevirtual 324, 3), (.athrow, 0), (.athrow, 0)], [(.istore_n 3, 1), (.iload_n 2, 1), (.ifCond .eq 9, 3), (.athrow, 0), (.athrow, 0), (.iload_n 1, 1), (.iload_n 3, 1), (.iadd, 1)], [(.goto 6, 3), (.athrow, 0), (.athrow, 0), (.iload_n 1, 1), (.iload_n 3, 1), (.isub, 1), (.istore_n 1, 1), (.goto (-58), 3)], [(.athrow, 0), (.athrow, 0), (.iload_n 1, 1), (.ireturn, 1)]]
def xt169 : xTb := [[(.aload_n 0, 1), (.bipush 110, 2), (.athrow, 0), (.bipush 111, 2), (.athrow, 0), (.bipush 116, 2), (.athrow, 0), (.iconst 0, 1)], [(.iconst 0, 1), (.iconst 0, 1), (.iconst 0, 1), (.iconst 0, 1), (.invokevirtual 212, 3), (.athrow, 0), (.athrow, 0), (.ifCond .eq 37, 3)], [(.athrow, 0), (.athrow, 0), (.aload_n 0, 1), (.invokevirtual 237, 3), (.athrow, 0), (.athrow, 0), (.ifCond .ne 5, 3), (.athrow, 0)], [(.athrow, 0), (.iconst 0, 1), (.ireturn, 1), (.aload_n 0, 1), (.invokevirtual 312, 3), (.athrow, 0), (.athrow, 0), (.istore_n 1, 1)], [(.aload_n 0, 1), (.dup, 1), (.getfield 203, 3), (.athrow, 0), (.athrow, 0), (.iconst 1, 1), (.isub, 1), (.putfield 203, 3)], [(.athrow, 0), (.athrow, 0), (.iload_n 1, 1), (.ifCond .ne 7, 3), (.athrow, 0), (.athrow, 0), (.iconst 1, 1), (.goto 4, 3)], [(.athrow, 0), (.athrow, 0), (.iconst 0, 1), (.ireturn, 1), (.aload_n 0, 1), (.invokevirtual 327, 3), (.athrow, 0), (.athrow, 0)], [(.istore_n 1, 1), (.aload_n 0, 1), (.bipush 60, 2), (.athrow, 0), (.invokevirtual 234, 3), (.athrow, 0), (.athrow, 0), (.ifCond .ne 14, 3)], [(.athrow, 0), (.athrow, 0), (.aload_n 0, 1), (.bipush 61, 2), (.athrow, 0), (.invokevirtual 234, 3), (.athrow, 0), (.athrow, 0)], [(.ifCond .ne 5, 3), (.athrow, 0), (.athrow, 0), (.iload_n 1, 1), (.ireturn, 1), (.aload_n 0, 1), (.getfield 189, 3), (.athrow, 0)], [(.athrow, 0), (.ldc2_w 256, 3), (.athrow, 0), (.athrow, 0), (.lcmp, 1), (.ifCond .ne 7, 3), (.athrow, 0), (.athrow, 0)], [(.iconst 1, 1), (.goto 4, 3), (.athrow, 0), (.athrow, 0), (.iconst 0, 1), (.istore_n 2, 1), (.aload_n 0, 1), (.invokevirtual 209, 3)], [(.athrow, 0), (.athrow, 0), (.aload_n 0, 1), (.invokevirtual 327, 3), (.athrow, 0), (.athrow, 0), (.istore_n 3, 1), (.iload_n 2, 1)], [(.ifCond .eq 11, 3), (.athrow, 0), (.athrow, 0), (.iload_n 1, 1), (.iload_n 3, 1), (.if_icmp .ge 15, 3), (.athrow, 0), (.athrow, 0)], [(.goto 8, 3), (.athrow, 0), (.athrow, 0), (.iload_n 1, 1), (.iload_n 3, 1), (.if_icmp .ne 7, 3), (.athrow, 0), (.athrow, 0)], [(.iconst 1, 1), (.goto 4, 3), (.athrow, 0), (.athrow, 0), (.iconst 0, 1), (.ireturn, 1)]]
def xt170 : xTb := [[(.aload_n 0, 1), (.invokevirtual 330, 3), (.athrow, 0), (.athrow, 0), (.istore_n 1, 1), (.aload_n 0, 1), (.bipush 97, 2), (.athrow, 0)], [(.bipush 110, 2), (.athrow, 0), (.bipush 100, 2), (.athrow, 0), (.iconst 0, 1), (.iconst 0, 1), (.iconst 0, 1), (.iconst 0, 1)], [(.iconst 0, 1), (.invokevirtual 212, 3), (.athrow, 0), (.athrow, 0), (.ifCond .eq 29, 3), (.athrow, 0), (.athrow, 0), (.aload_n 0, 1)], [(.invokevirtual 209, 3), (.athrow, 0), (.athrow, 0), (.aload_n 0, 1), (.invokevirtual 330, 3), (.athrow, 0), (.athrow, 0), (.istore_n 2, 1)], [(.iload_n 1, 1), (.ifCond .eq 11, 3), (.athrow, 0), (.athrow, 0), (.iload_n 2, 1), (.ifCond .eq 7, 3), (.athrow, 0), (.athrow, 0)], [(.iconst 1, 1), (.goto 4, 3), (.athrow, 0), (.athrow, 0), (.iconst 0, 1), (.istore_n 1, 1), (.goto (-41), 3), (.athrow, 0)], [(.athrow, 0), (.iload_n 1, 1), (.ireturn, 1)]]
def xt171 : xTb := [[(.aload_n 0, 1), (.invokevirtual 333, 3), (.athrow, 0), (.athrow, 0), (.istore_n 1, 1), (.aload_n 0, 1), (.bipush 111, 2), (.athrow, 0)], [(.bipush 114, 2), (.athrow, 0), (.iconst 0, 1), (.iconst 0, 1), (.iconst 0, 1), (.iconst 0, 1), (.iconst 0, 1), (.iconst 0, 1)], [(.invokevirtual 212, 3), (.athrow, 0), (.athrow, 0), (.ifCond .eq 29, 3), (.athrow, 0), (.athrow, 0), (.aload_n 0, 1), (.invokevirtual 209, 3)], [(.athrow, 0), (.athrow, 0), (.aload_n 0, 1), (.invokevirtual 333, 3), (.athrow, 0), (.athrow, 0), (.istore_n 2, 1), (.iload_n 1, 1)], [(.ifCond .ne 7, 3), (.athrow, 0), (.athrow, 0), (.iload_n 2, 1), (.ifCond .eq 7, 3), (.athrow, 0), (.athrow, 0), (.iconst 1, 1)], [(.goto 4, 3), (.athrow, 0), (.athrow, 0), (.iconst 0, 1), (.istore_n 1, 1), (.goto (-40), 3), (.athrow, 0), (.athrow, 0)], [(.iload_n 1, 1), (.ireturn, 1)]]
def xt172 : xTb := [[(.iconst 0, 1), (.istore_n 1, 1), (.aload_n 0, 1), (.bipush 45, 2), (.athrow, 0), (.invokevirtual 234, 3), (.athrow, 0), (.athrow, 0)], [(.ifCond .eq 29, 3), (.athrow, 0), (.athrow, 0), (.aload_n 0, 1), (.invokevirtual 237, 3), (.athrow, 0), (.athrow, 0), (.ifCond .eq 146, 3)], [(.athrow, 0), (.athrow, 0), (.aload_n 0, 1), (.invokevirtual 321, 3), (.athrow, 0), (.athrow, 0), (.ineg, 1), (.istore_n 1, 1)], [(.aload_n 0, 1), (.dup, 1), (.getfield 203, 3), (.athrow, 0), (.athrow, 0), (.iconst 1, 1), (.isub, 1), (.putfield 203, 3)], [(.athrow, 0), (.athrow, 0), (.goto 127, 3), (.athrow, 0), (.athrow, 0), (.aload_n 0, 1), (.bipush 40, 2), (.athrow, 0)], [(.invokevirtual 234, 3), (.athrow, 0), (.athrow, 0), (.ifCond .eq 52, 3), (.athrow, 0), (.athrow, 0), (.aload_n 0, 1), (.invokevirtual 237, 3)], [(.athrow, 0), (.athrow, 0), (.ifCond .eq 111, 3), (.athrow, 0), (.athrow, 0), (.aload_n 0, 1), (.invokevirtual 336, 3), (.athrow, 0)], [(.athrow, 0), (.istore_n 1, 1), (.aload_n 0, 1), (.bipush 41, 2), (.athrow, 0), (.invokevirtual 234, 3), (.athrow, 0), (.athrow, 0)], [(.ifCond .ne 7, 3), (.athrow, 0), (.athrow, 0), (.aload_n 0, 1), (.invokevirtual 206, 3), (.athrow, 0), (.athrow, 0), (.aload_n 0, 1)], [(.dup, 1), (.getfield 203, 3), (.athrow, 0), (.athrow, 0), (.iconst 1, 1), (.isub, 1), (.putfield 203, 3), (.athrow, 0)], [(.athrow, 0), (.aload_n 0, 1), (.getfield 193, 3), (.athrow, 0), (.athrow, 0), (.ifCond .ne 76, 3), (.athrow, 0), (.athrow, 0)], [(.aload_n 0, 1), (.invokevirtual 209, 3), (.athrow, 0), (.athrow, 0), (.goto 69, 3), (.athrow, 0), (.athrow, 0), (.aload_n 0, 1)], [(.getfield 193, 3), (.athrow, 0), (.athrow, 0), (.ifCond .ne 24, 3), (.athrow, 0), (.athrow, 0), (.aload_n 0, 1), (.getfield 178, 3)], [(.athrow, 0), (.athrow, 0), (.iconst 2, 1), (.if_icmp .ne 16, 3), (.athrow, 0), (.athrow, 0), (.aload_n 0, 1), (.getfield 189, 3)], [(.athrow, 0), (.athrow, 0), (.l2i, 1), (.istore_n 1, 1), (.aload_n 0, 1), (.invokevirtual 209, 3), (.athrow, 0), (.athrow, 0)], [(.goto 41, 3), (.athrow, 0), (.athrow, 0), (.aload_n 0, 1), (.getfield 193, 3), (.athrow, 0), (.athrow, 0), (.ifCond .ne 30, 3)], [(.athrow, 0), (.athrow, 0), (.aload_n 0, 1), (.getfield 178, 3), (.athrow, 0), (.athrow, 0), (.iconst 1, 1), (.if_icmp .ne 22, 3)], [(.athrow, 0), (.athrow, 0), (.aload_n 0, 1), (.invokevirtual 241, 3), (.athrow, 0), (.athrow, 0), (.istore_n 1, 1), (.aload_n 0, 1)], [(.getfield 193, 3), (.athrow, 0), (.athrow, 0), (.ifCond .ne 14, 3), (.athrow, 0), (.athrow, 0), (.aload_n 0, 1), (.invokevirtual 209, 3)], [(.athrow, 0), (.athrow, 0), (.goto 7, 3), (.athrow, 0), (.athrow, 0), (.aload_n 0, 1), (.invokevirtual 206, 3), (.athrow, 0)], [(.athrow, 0), (.iload_n 1, 1), (.ireturn, 1)]]
def xt173 : xTb := [[(.aload_n 0, 1), (.invokevirtual 339, 3), (.athrow, 0), (.athrow, 0), (.istore_n 1, 1), (.aload_n 0, 1), (.bipush 42, 2), (.athrow, 0)], [(.invokevirtual 234, 3), (.athrow, 0), (.athrow, 0), (.ifCond .eq 17, 3), (.athrow, 0), (.athrow, 0), (.aload_n 0, 1), (.invokevirtual 209, 3)], [(.athrow, 0), (.athrow, 0), (.iload_n 1, 1), (.aload_n 0, 1), (.invokevirtual 339, 3), (.athrow, 0), (.athrow, 0), (.imul, 1)], [(.istore_n 1, 1), (.goto (-20), 3), (.athrow, 0), (.athrow, 0), (.iload_n 1, 1), (.ireturn, 1)]]
def xt174 : xTb := [[(.aload_n 0, 1), (.invokevirtual 342, 3), (.athrow, 0), (.athrow, 0), (.istore_n 1, 1), (.aload_n 0, 1), (.bipush 43, 2), (.athrow, 0)], [(.invokevirtual 234, 3), (.athrow, 0), (.athrow, 0), (.ifCond .ne 12, 3), (.athrow, 0), (.athrow, 0), (.aload_n 0, 1), (.bipush 45, 2)], [(.athrow, 0), (.invokevirtual 234, 3), (.athrow, 0), (.athrow, 0), (.ifCond .eq 46, 3), (.athrow, 0), (.athrow, 0), (.aload_n 0, 1)], [(.getfield 189, 3), (.athrow, 0), (.athrow, 0), (.ldc2_w 251, 3), (.athrow, 0), (.athrow, 0), (.lcmp, 1), (.ifCond .ne 7, 3)], [(.athrow, 0), (.athrow, 0), (.iconst 1, 1), (.goto 4, 3), (.athrow, 0), (.athrow, 0), (.iconst 0, 1), (.istore_n 2, 1)], [(.aload_n 0, 1), (.invokevirtual 209, 3), (.athrow, 0), (.athrow, 0), (.aload_n 0, 1), (.invokevirtual 342, 3), (.athrow, 0), (.athrow, 0)], [(.istore_n 3, 1), (.iload_n 2, 1), (.ifCond .eq 9, 3), (.athrow, 0), (.athrow, 0), (.iload_n 1, 1), (.iload_n 3, 1), (.iadd, 1)], [(.goto 6, 3), (.athrow, 0), (.athrow, 0), (.iload_n 1, 1), (.iload_n 3, 1), (.isub, 1), (.istore_n 1, 1), (.goto (-58), 3)], [(.athrow, 0), (.athrow, 0), (.iload_n 1, 1), (.ireturn, 1)]]
def xt175 : xTb := [[(.aload_n 0, 1), (.bipush 110, 2), (.athrow, 0), (.bipush 111, 2), (.athrow, 0), (.bipush 116, 2), (.athrow, 0), (.iconst 0, 1)], [(.iconst 0, 1), (.iconst 0, 1), (.iconst 0, 1), (.iconst 0, 1), (.invokevirtual 212, 3), (.athrow, 0), (.athrow, 0), (.ifCond .eq 37, 3)], [(.athrow, 0), (.athrow, 0), (.aload_n 0, 1), (.invokevirtual 237, 3), (.athrow, 0), (.athrow, 0), (.ifCond .ne 5, 3), (.athrow, 0)], [(.athrow, 0), (.iconst 0, 1), (.ireturn, 1), (.aload_n 0, 1), (.invokevirtual 330, 3), (.athrow, 0), (.athrow, 0), (.istore_n 1, 1)], [(.aload_n 0, 1), (.dup, 1), (.getfield 203, 3), (.athrow, 0), (.athrow, 0), (.iconst 1, 1), (.isub, 1), (.putfield 203, 3)], [(.athrow, 0), (.athrow, 0), (.iload_n 1, 1), (.ifCond .ne 7, 3), (.athrow, 0), (.athrow, 0), (.iconst 1, 1), (.goto 4, 3)], [(.athrow, 0), (.athrow, 0), (.iconst 0, 1), (.ireturn, 1), (.aload_n 0, 1), (.invokevirtual 345, 3), (.athrow, 0), (.athrow, 0)], [(.istore_n 1, 1), (.aload_n 0, 1), (.bipush 60, 2), (.athrow, 0), (.invokevirtual 234, 3), (.athrow, 0), (.athrow, 0), (.ifCond .ne 14, 3)], [(.athrow, 0), (.athrow, 0), (.aload_n 0, 1), (.bipush 61, 2), (.athrow, 0), (.invokevirtual 234, 3), (.athrow, 0), (.athrow, 0)], [(.ifCond .ne 5, 3), (.athrow, 0), (.athrow, 0), (.iload_n 1, 1), (.ireturn, 1), (.aload_n 0, 1), (.getfield 189, 3), (.athrow, 0)], [(.athrow, 0), (.ldc2_w 256, 3), (.athrow, 0), (.athrow, 0), (.lcmp, 1), (.ifCond .ne 7, 3), (.athrow, 0), (.athrow, 0)], [(.iconst 1, 1), (.goto 4, 3), (.athrow, 0), (.athrow, 0), (.iconst 0, 1), (.istore_n 2, 1), (.aload_n 0, 1), (.invokevirtual 209, 3)], [(.athrow, 0), (.athrow, 0), (.aload_n 0, 1), (.invokevirtual 345, 3), (.athrow, 0), (.athrow, 0), (.istore_n 3, 1), (.iload_n 2, 1)], [(.ifCond .eq 11, 3), (.athrow, 0), (.athrow, 0), (.iload_n 1, 1), (.iload_n 3, 1), (.if_icmp .ge 15, 3), (.athrow, 0), (.athrow, 0)], [(.goto 8, 3), (.athrow, 0), (.athrow, 0), (.iload_n 1, 1), (.iload_n 3, 1), (.if_icmp .ne 7, 3), (.athrow, 0), (.athrow, 0)], [(.iconst 1, 1), (.goto 4, 3), (.athrow, 0), (.athrow, 0), (.iconst 0, 1), (.ireturn, 1)]]
def xt176 : xTb := [[(.aload_n 0, 1), (.invokevirtual 348, 3), (.athrow, 0), (.athrow, 0), (.istore_n 1, 1), (.aload_n 0, 1), (.bipush 97, 2), (.athrow, 0)], [(.bipush 110, 2), (.athrow, 0), (.bipush 100, 2), (.athrow, 0), (.iconst 0, 1), (.iconst 0, 1), (.iconst 0, 1), (.iconst 0, 1)], [(.iconst 0, 1), (.invokevirtual 212, 3), (.athrow, 0), (.athrow, 0), (.ifCond .eq 29, 3), (.athrow, 0), (.athrow, 0), (.aload_n 0, 1)], [(.invokevirtual 209, 3), (.athrow, 0), (.athrow, 0), (.aload_n 0, 1), (.invokevirtual 348, 3), (.athrow, 0), (.athrow, 0), (.istore_n 2, 1)], [(.iload_n 1, 1), (.ifCond .eq 11, 3), (.athrow, 0), (.athrow, 0), (.iload_n 2, 1), (.ifCond .eq 7, 3), (.athrow, 0), (.athrow, 0)], [(.iconst 1, 1), (.goto 4, 3), (.athrow, 0), (.athrow, 0), (.iconst 0, 1), (.istore_n 1, 1), (.goto (-41), 3), (.athrow, 0)], [(.athrow, 0), (.iload_n 1, 1), (.ireturn, 1)]]
def xt177 : xTb := [[(.aload_n 0, 1), (.invokevirtual 351, 3), (.athrow, 0), (.athrow, 0), (.istore_n 1, 1), (.aload_n 0, 1), (.bipush 111, 2), (.athrow, 0)], [(.bipush 114, 2), (.athrow, 0), (.iconst 0, 1), (.iconst 0, 1), (.iconst 0, 1), (.iconst 0, 1), (.iconst 0, 1), (.iconst 0, 1)], [(.invokevirtual 212, 3), (.athrow, 0), (.athrow, 0), (.ifCond .eq 29, 3), (.athrow, 0), (.athrow, 0), (.aload_n 0, 1), (.invokevirtual 209, 3)], [(.athrow, 0), (.athrow, 0), (.aload_n 0, 1), (.invokevirtual 351, 3), (.athrow, 0), (.athrow, 0), (.istore_n 2, 1), (.iload_n 1, 1)], [(.ifCond .ne 7, 3), (.athrow, 0), (.athrow, 0), (.iload_n 2, 1), (.ifCond .eq 7, 3), (.athrow, 0), (.athrow, 0), (.iconst 1, 1)], [(.goto 4, 3), (.athrow, 0), (.athrow, 0), (.iconst 0, 1), (.istore_n 1, 1), (.goto (-40), 3), (.athrow, 0), (.athrow, 0)], [(.iload_n 1, 1), (.ireturn, 1)]]
def xt178 : xTb := [[(.iload_n 1, 1), (.ifCond .ne 7, 3), (.athrow, 0), (.athrow, 0), (.aload_n 0, 1), (.invokevirtual 206, 3), (.athrow, 0), (.athrow, 0)], [(.aload_n 0, 1), (.getfield 193, 3), (.athrow, 0), (.athrow, 0), (.ifCond .ne 7, 3), (.athrow, 0), (.athrow, 0), (.aload_n 0, 1)], [(.invokevirtual 209, 3), (.athrow, 0), (.athrow, 0), (.aload_n 0, 1), (.getfield 193, 3), (.athrow, 0), (.athrow, 0), (.ifCond .eq 7, 3)], [(.athrow, 0), (.athrow, 0), (.iconst 0, 1), (.goto 7, 3), (.athrow, 0), (.athrow, 0), (.aload_n 0, 1), (.invokevirtual 354, 3)], [(.athrow, 0), (.athrow, 0), (.istore_n 2, 1), (.aload_n 0, 1), (.bipush 59, 2), (.athrow, 0), (.invokevirtual 234, 3), (.athrow, 0)], [(.athrow, 0), (.ifCond .ne 7, 3), (.athrow, 0), (.athrow, 0), (.aload_n 0, 1), (.invokevirtual 206, 3), (.athrow, 0), (.athrow, 0)], [(.aload_n 0, 1), (.getfield 193, 3), (.athrow, 0), (.athrow, 0), (.ifCond .ne 7, 3), (.athrow, 0), (.athrow, 0), (.aload_n 0, 1)], [(.invokevirtual 209, 3), (.athrow, 0), (.athrow, 0), (.iload_n 2, 1), (.ireturn, 1)]]
def xt179 : xTb := [[(.aload_n 0, 1), (.sipush 160, 3), (.athrow, 0), (.athrow, 0), (.iload_n 1, 1), (.imul, 1), (.putfield 166, 3), (.athrow, 0)], [(.athrow, 0), (.aload_n 0, 1), (.aload_n 0, 1), (.getfield 17, 3), (.athrow, 0), (.athrow, 0), (.iload_n 1, 1), (.iaload, 1)], [(.putfield 163, 3), (.athrow, 0), (.athrow, 0), (.aload_n 0, 1), (.iconst 0, 1), (.putfield 169, 3), (.athrow, 0), (.athrow, 0)], [(.aload_n 0, 1), (.iconst 0, 1), (.putfield 203, 3), (.athrow, 0), (.athrow, 0), (.aload_n 0, 1), (.iconst 0, 1), (.putfield 193, 3)], [(.athrow, 0), (.athrow, 0), (.aload_n 0, 1), (.invokevirtual 209, 3), (.athrow, 0), (.athrow, 0), (.aload_n 0, 1), (.aload_n 0, 1)], [(.bipush 109, 2), (.athrow, 0), (.bipush 101, 2), (.athrow, 0), (.bipush 101, 2), (.athrow, 0), (.bipush 116, 2), (.athrow, 0)], [(.bipush 115, 2), (.athrow, 0), (.iconst 0, 1), (.iconst 0, 1), (.iconst 0, 1), (.invokevirtual 212, 3), (.athrow, 0), (.athrow, 0)], [(.invokevirtual 357, 3), (.athrow, 0), (.athrow, 0), (.istore_n 3, 1), (.aload_n 0, 1), (.getfield 193, 3), (.athrow, 0), (.athrow, 0)], [(.ifCond .eq 7, 3), (.athrow, 0), (.athrow, 0), (.iconst 0, 1), (.goto 24, 3), (.athrow, 0), (.athrow, 0), (.aload_n 0, 1)], [(.aload_n 0, 1), (.bipush 102, 2), (.athrow, 0), (.bipush 97, 2), (.athrow, 0), (.bipush 100, 2), (.athrow, 0), (.bipush 101, 2)], [(.athrow, 0), (.bipush 115, 2), (.athrow, 0), (.iconst 0, 1), (.iconst 0, 1), (.iconst 0, 1), (.invokevirtual 212, 3), (.athrow, 0)], [(.athrow, 0), (.invokevirtual 357, 3), (.athrow, 0), (.athrow, 0), (.istore 4, 2), (.athrow, 0), (.aload_n 0, 1), (.getfield 193, 3)], [(.athrow, 0), (.athrow, 0), (.ifCond .eq 7, 3), (.athrow, 0), (.athrow, 0), (.iconst 0, 1), (.goto 25, 3), (.athrow, 0)], [(.athrow, 0), (.aload_n 0, 1), (.aload_n 0, 1), (.bipush 115, 2), (.athrow, 0), (.bipush 111, 2), (.athrow, 0), (.bipush 117, 2)], [(.athrow, 0), (.bipush 110, 2), (.athrow, 0), (.bipush 100, 2), (.athrow, 0), (.bipush 115, 2), (.athrow, 0), (.iconst 0, 1)], [(.iconst 0, 1), (.invokevirtual 212, 3), (.athrow, 0), (.athrow, 0), (.invokevirtual 357, 3), (.athrow, 0), (.athrow, 0), (.istore 5, 2)], [(.athrow, 0), (.aload_n 0, 1), (.getfield 193, 3), (.athrow, 0), (.athrow, 0), (.ifCond .ne 14, 3), (.athrow, 0), (.athrow, 0)], [(.aload_n 0, 1), (.getfield 178, 3), (.athrow, 0), (.athrow, 0), (.ifCond .eq 7, 3), (.athrow, 0), (.athrow, 0), (.aload_n 0, 1)], [(.invokevirtual 206, 3), (.athrow, 0), (.athrow, 0), (.iload_n 2, 1), (.ifCond .ne 7, 3), (.athrow, 0), (.athrow, 0), (.iload_n 3, 1)], [(.goto 15, 3), (.athrow, 0), (.athrow, 0), (.iload_n 2, 1), (.iconst 1, 1), (.if_icmp .ne 8, 3), (.athrow, 0), (.athrow, 0)], [(.iload 4, 2), (.athrow, 0), (.goto 5, 3), (.athrow, 0), (.athrow, 0), (.iload 5, 2), (.athrow, 0), (.ireturn, 1)]]
def xt180 : xTb := [[(.aload_n 0, 1), (.getfield 85, 3), (.athrow, 0), (.athrow, 0), (.bipush 6, 2), (.athrow, 0), (.if_icmp .ne 6, 3), (.athrow, 0)], [(.athrow, 0), (.bipush (-4), 2), (.athrow, 0), (.ireturn, 1), (.iconst 0, 1), (.istore_n 1, 1), (.iload_n 1, 1), (.aload_n 0, 1)], [(.getfield 160, 3), (.athrow, 0), (.athrow, 0), (.if_icmp .ge 30, 3), (.athrow, 0), (.athrow, 0), (.aload_n 0, 1), (.getfield 13, 3)], [(.athrow, 0), (.athrow, 0), (.sipush 160, 3), (.athrow, 0), (.athrow, 0), (.aload_n 0, 1), (.getfield 85, 3), (.athrow, 0)], [(.athrow, 0), (.imul, 1), (.iload_n 1, 1), (.iadd, 1), (.aload_n 0, 1), (.getfield 20, 3), (.athrow, 0), (.athrow, 0)], [(.iload_n 1, 1), (.iaload, 1), (.iastore, 1), (.iinc 1 1, 3), (.athrow, 0), (.athrow, 0), (.goto (-32), 3), (.athrow, 0)], [(.athrow, 0), (.aload_n 0, 1), (.getfield 17, 3), (.athrow, 0), (.athrow, 0), (.aload_n 0, 1), (.getfield 85, 3), (.athrow, 0)], [(.athrow, 0), (.aload_n 0, 1), (.getfield 160, 3), (.athrow, 0), (.athrow, 0), (.iastore, 1), (.aload_n 0, 1), (.iconst 0, 1)], [(.putfield 160, 3), (.athrow, 0), (.athrow, 0), (.aload_n 0, 1), (.aload_n 0, 1), (.getfield 85, 3), (.athrow, 0), (.athrow, 0)], [(.iconst 0, 1), (.invokevirtual 361, 3), (.athrow, 0), (.athrow, 0), (.istore_n 1, 1), (.aload_n 0, 1), (.getfield 193, 3), (.athrow, 0)], [(.athrow, 0), (.ifCond .eq 11, 3), (.athrow, 0), (.athrow, 0), (.bipush (-100), 2), (.athrow, 0), (.aload_n 0, 1), (.getfield 197, 3)], [(.athrow, 0), (.athrow, 0), (.isub, 1), (.ireturn, 1), (.aload_n 0, 1), (.dup, 1), (.getfield 85, 3), (.athrow, 0)], [(.athrow, 0), (.iconst 1, 1), (.iadd, 1), (.putfield 85, 3), (.athrow, 0), (.athrow, 0), (.aload_n 0, 1), (.getfield 85, 3)], [(.athrow, 0), (.athrow, 0), (.iconst 1, 1), (.isub, 1), (.ireturn, 1)]]
def xt181 : xTb := [[(.iload_n 1, 1), (.i2l, 1), (.lconst 0, 1), (.aload_n 0, 1), (.getfield 85, 3), (.athrow, 0), (.athrow, 0), (.iconst 1, 1)], [(.isub, 1), (.i2l, 1), (.invokestatic 91, 3), (.athrow, 0), (.athrow, 0), (.ifCond .ne 6, 3), (.athrow, 0), (.athrow, 0)], [(.bipush (-2), 2), (.athrow, 0), (.ireturn, 1), (.aload_n 0, 1), (.getfield 124, 3), (.athrow, 0), (.athrow, 0), (.istore_n 2, 1)], [(.aload_n 0, 1), (.iload_n 1, 1), (.putfield 124, 3), (.athrow, 0), (.athrow, 0), (.iload_n 2, 1), (.ireturn, 1)]]
def xt182 : xTb := [[(.aload_n 0, 1), (.iload_n 3, 1), (.iconst (-1), 1), (.if_icmp .ne 7, 3), (.athrow, 0), (.athrow, 0), (.iconst 0, 1), (.goto 9, 3)], [(.athrow, 0), (.athrow, 0), (.aload_n 0, 1), (.iload_n 2, 1), (.iload_n 3, 1), (.invokevirtual 139, 3), (.athrow, 0), (.athrow, 0)], [(.putfield 216, 3), (.athrow, 0), (.athrow, 0), (.aload_n 0, 1), (.aload_n 0, 1), (.getfield 29, 3), (.athrow, 0), (.athrow, 0)], [(.iload_n 2, 1), (.iaload, 1), (.putfield 219, 3), (.athrow, 0), (.athrow, 0), (.aload_n 0, 1), (.iload_n 3, 1), (.iconst (-1), 1)], [(.if_icmp .ne 7, 3), (.athrow, 0), (.athrow, 0), (.iconst 0, 1), (.goto 9, 3), (.athrow, 0), (.athrow, 0), (.aload_n 0, 1)], [(.getfield 29, 3), (.athrow, 0), (.athrow, 0), (.iload_n 3, 1), (.iaload, 1), (.putfield 222, 3), (.athrow, 0), (.athrow, 0)], [(.aload_n 0, 1), (.aload_n 0, 1), (.iload_n 2, 1), (.invokevirtual 148, 3), (.athrow, 0), (.athrow, 0), (.putfield 225, 3), (.athrow, 0)], [(.athrow, 0), (.aload_n 0, 1), (.aload_n 0, 1), (.getfield 121, 3), (.athrow, 0), (.athrow, 0), (.putfield 228, 3), (.athrow, 0)], [(.athrow, 0), (.aload_n 0, 1), (.iload_n 3, 1), (.iconst (-1), 1), (.if_icmp .ne 7, 3), (.athrow, 0), (.athrow, 0), (.iconst 0, 1)], [(.goto 8, 3), (.athrow, 0), (.athrow, 0), (.iload_n 2, 1), (.iload_n 3, 1), (.invokestatic 364, 3), (.athrow, 0), (.athrow, 0)], [(.putfield 231, 3), (.athrow, 0), (.athrow, 0), (.aload_n 0, 1), (.aload_n 0, 1), (.getfield 124, 3), (.athrow, 0), (.athrow, 0)], [(.iload_n 1, 1), (.invokevirtual 361, 3), (.athrow, 0), (.athrow, 0), (.iconst 0, 1), (.bipush 60, 2), (.athrow, 0), (.invokestatic 127, 3)], [(.athrow, 0), (.athrow, 0), (.ireturn, 1)]]
def xt183 : xTb := [[(.iload_n 0, 1), (.iload_n 1, 1), (.if_icmp .le 9, 3), (.athrow, 0), (.athrow, 0), (.iload_n 0, 1), (.iload_n 1, 1), (.isub, 1)], [(.goto 6, 3), (.athrow, 0), (.athrow, 0), (.iload_n 1, 1), (.iload_n 0, 1), (.isub, 1), (.ireturn, 1)]]
def xt184 : xTb := [[(.aload_n 0, 1), (.getfield 26, 3), (.athrow, 0), (.athrow, 0), (.iload_n 1, 1), (.iaload, 1), (.istore_n 3, 1), (.aload_n 0, 1)], [(.iconst 0, 1), (.iload_n 1, 1), (.iload_n 2, 1), (.invokevirtual 367, 3), (.athrow, 0), (.athrow, 0), (.istore 4, 2), (.athrow, 0)], [(.iload_n 3, 1), (.iconst 1, 1), (.if_icmp .ne 10, 3), (.athrow, 0), (.athrow, 0), (.iconst 2, 1), (.iload 4, 2), (.athrow, 0)], [(.imul, 1), (.goto 70, 3), (.athrow, 0), (.athrow, 0), (.iload_n 3, 1), (.iconst 3, 1), (.if_icmp .ne 17, 3), (.athrow, 0)], [(.athrow, 0), (.iconst 2, 1), (.iload 4, 2), (.athrow, 0), (.imul, 1), (.aload_n 0, 1), (.getfield 29, 3), (.athrow, 0)], [(.athrow, 0), (.iload_n 1, 1), (.iaload, 1), (.iadd, 1), (.goto 51, 3), (.athrow, 0), (.athrow, 0), (.iload_n 3, 1)], [(.iconst 2, 1), (.if_icmp .ne 10, 3), (.athrow, 0), (.athrow, 0), (.iload 4, 2), (.athrow, 0), (.iconst 2, 1), (.idiv, 1)], [(.goto 39, 3), (.athrow, 0), (.athrow, 0), (.iload_n 3, 1), (.iconst 4, 1), (.if_icmp .ne 23, 3), (.athrow, 0), (.athrow, 0)], [(.iload_n 1, 1), (.iload_n 2, 1), (.invokestatic 364, 3), (.athrow, 0), (.athrow, 0), (.iconst 2, 1), (.if_icmp .le 7, 3), (.athrow, 0)], [(.athrow, 0), (.iconst 0, 1), (.goto 21, 3), (.athrow, 0), (.athrow, 0), (.iload 4, 2), (.athrow, 0), (.iconst 2, 1)], [(.idiv, 1), (.goto 14, 3), (.athrow, 0), (.athrow, 0), (.iload_n 3, 1), (.iconst 5, 1), (.if_icmp .ne 7, 3), (.athrow, 0)], [(.athrow, 0), (.iconst 3, 1), (.goto 5, 3), (.athrow, 0), (.athrow, 0), (.iload 4, 2), (.athrow, 0), (.ireturn, 1)]]
def xt185 : xTb := [[(.aload_n 0, 1), (.getfield 26, 3), (.athrow, 0), (.athrow, 0), (.iload_n 1, 1), (.iaload, 1), (.istore_n 3, 1), (.aload_n 0, 1)], [(.iconst 1, 1), (.iload_n 1, 1), (.iload_n 2, 1), (.invokevirtual 367, 3), (.athrow, 0), (.athrow, 0), (.istore 4, 2), (.athrow, 0)], [(.iload_n 3, 1), (.iconst 1, 1), (.if_icmp .ne 10, 3), (.athrow, 0), (.athrow, 0), (.iload 4, 2), (.athrow, 0), (.iconst 1, 1)], [(.iadd, 1), (.goto 56, 3), (.athrow, 0), (.athrow, 0), (.iload_n 3, 1), (.iconst 3, 1), (.if_icmp .ne 12, 3), (.athrow, 0)], [(.athrow, 0), (.iconst 2, 1), (.iload 4, 2), (.athrow, 0), (.iconst 1, 1), (.iadd, 1), (.imul, 1), (.goto 42, 3)], [(.athrow, 0), (.athrow, 0), (.iload_n 3, 1), (.iconst 2, 1), (.if_icmp .ne 10, 3), (.athrow, 0), (.athrow, 0), (.iload 4, 2)], [(.athrow, 0), (.iconst 2, 1), (.idiv, 1), (.goto 30, 3), (.athrow, 0), (.athrow, 0), (.iload_n 3, 1), (.iconst 4, 1)], [(.if_icmp .ne 23, 3), (.athrow, 0), (.athrow, 0), (.aload_n 0, 1), (.getfield 121, 3), (.athrow, 0), (.athrow, 0), (.iconst 2, 1)], [(.irem, 1), (.ifCond .ne 7, 3), (.athrow, 0), (.athrow, 0), (.iconst 0, 1), (.goto 12, 3), (.athrow, 0), (.athrow, 0)], [(.iload 4, 2), (.athrow, 0), (.iconst 2, 1), (.idiv, 1), (.goto 5, 3), (.athrow, 0), (.athrow, 0), (.iload 4, 2)], [(.athrow, 0), (.ireturn, 1)]]
def xt186 : xTb := [[(.aload_n 0, 1), (.getfield 26, 3), (.athrow, 0), (.athrow, 0), (.iload_n 1, 1), (.iaload, 1), (.istore_n 2, 1), (.aload_n 0, 1)], [(.iconst 2, 1), (.iload_n 1, 1), (.iconst (-1), 1), (.invokevirtual 367, 3), (.athrow, 0), (.athrow, 0), (.istore_n 3, 1), (.iload_n 2, 1)], [(.iconst 1, 1), (.if_icmp .ne 9, 3), (.athrow, 0), (.athrow, 0), (.iload_n 3, 1), (.iconst 5, 1), (.iadd, 1), (.goto 45, 3)], [(.athrow, 0), (.athrow, 0), (.iload_n 2, 1), (.iconst 3, 1), (.if_icmp .ne 11, 3), (.athrow, 0), (.athrow, 0), (.iconst 2, 1)], [(.iload_n 3, 1), (.iconst 5, 1), (.iadd, 1), (.imul, 1), (.goto 32, 3), (.athrow, 0), (.athrow, 0), (.iload_n 2, 1)], [(.iconst 2, 1), (.if_icmp .eq 8, 3), (.athrow, 0), (.athrow, 0), (.iload_n 2, 1), (.iconst 4, 1), (.if_icmp .ne 7, 3), (.athrow, 0)], [(.athrow, 0), (.iconst 0, 1), (.goto 18, 3), (.athrow, 0), (.athrow, 0), (.iload_n 2, 1), (.iconst 5, 1), (.if_icmp .ne 12, 3)], [(.athrow, 0), (.athrow, 0), (.aload_n 0, 1), (.getfield 29, 3), (.athrow, 0), (.athrow, 0), (.iload_n 1, 1), (.iaload, 1)], [(.goto 4, 3), (.athrow, 0), (.athrow, 0), (.iload_n 3, 1), (.ireturn, 1)]]
def xt187 : xTb := [[(.aload_n 0, 1), (.iload_n 1, 1), (.iload_n 2, 1), (.invokevirtual 136, 3), (.athrow, 0), (.athrow, 0), (.ifCond .eq 13, 3), (.athrow, 0)], [(.athrow, 0), (.iload_n 3, 1), (.i2l, 1), (.lconst 0, 1), (.lconst 1, 1), (.invokestatic 91, 3), (.athrow, 0), (.athrow, 0)], [(.ifCond .ne 6, 3), (.athrow, 0), (.athrow, 0), (.bipush (-2), 2), (.athrow, 0), (.ireturn, 1), (.iload_n 3, 1), (.ifCond .ne 12, 3)], [(.athrow, 0), (.athrow, 0), (.aload_n 0, 1), (.iload_n 1, 1), (.iload_n 2, 1), (.invokevirtual 370, 3), (.athrow, 0), (.athrow, 0)], [(.goto 9, 3), (.athrow, 0), (.athrow, 0), (.aload_n 0, 1), (.iload_n 1, 1), (.iload_n 2, 1), (.invokevirtual 373, 3), (.athrow, 0)], [(.athrow, 0), (.ireturn, 1)]]
def xt188 : xTb := [[(.iconst 0, 1), (.istore_n 1, 1), (.iload_n 1, 1), (.aload_n 0, 1), (.getfield 88, 3), (.athrow, 0), (.athrow, 0), (.if_icmp .ge 80, 3)], [(.athrow, 0), (.athrow, 0), (.iload_n 1, 1), (.iconst 1, 1), (.iadd, 1), (.istore_n 2, 1), (.iload_n 2, 1), (.aload_n 0, 1)], [(.getfield 88, 3), (.athrow, 0), (.athrow, 0), (.if_icmp .ge 62, 3), (.athrow, 0), (.athrow, 0), (.aload_n 0, 1), (.getfield 32, 3)], [(.athrow, 0), (.athrow, 0), (.iload_n 1, 1), (.iaload, 1), (.iconst (-1), 1), (.if_icmp .eq 46, 3), (.athrow, 0), (.athrow, 0)], [(.aload_n 0, 1), (.getfield 32, 3), (.athrow, 0), (.athrow, 0), (.iload_n 1, 1), (.iaload, 1), (.aload_n 0, 1), (.getfield 32, 3)], [(.athrow, 0), (.athrow, 0), (.iload_n 2, 1), (.iaload, 1), (.if_icmp .ne 31, 3), (.athrow, 0), (.athrow, 0), (.aload_n 0, 1)], [(.iload_n 1, 1), (.iload_n 2, 1), (.invokevirtual 370, 3), (.athrow, 0), (.athrow, 0), (.aload_n 0, 1), (.iload_n 2, 1), (.iload_n 1, 1)], [(.invokevirtual 370, 3), (.athrow, 0), (.athrow, 0), (.iadd, 1), (.istore_n 3, 1), (.aload_n 0, 1), (.iload_n 1, 1), (.iload_n 2, 1)], [(.aload_n 0, 1), (.iload_n 1, 1), (.iload_n 2, 1), (.invokevirtual 139, 3), (.athrow, 0), (.athrow, 0), (.iload_n 3, 1), (.iadd, 1)], [(.invokevirtual 133, 3), (.athrow, 0), (.athrow, 0), (.iinc 2 1, 3), (.athrow, 0), (.athrow, 0), (.goto (-64), 3), (.athrow, 0)], [(.athrow, 0), (.iinc 1 1, 3), (.athrow, 0), (.athrow, 0), (.goto (-82), 3), (.athrow, 0), (.athrow, 0), (.return_, 1)]]
def xt189 : xTb := [[(.iconst 0, 1), (.istore_n 1, 1), (.iload_n 1, 1), (.aload_n 0, 1), (.getfield 88, 3), (.athrow, 0), (.athrow, 0), (.if_icmp .ge 55, 3)], [(.athrow, 0), (.athrow, 0), (.iload_n 1, 1), (.iconst 1, 1), (.iadd, 1), (.istore_n 2, 1), (.iload_n 2, 1), (.aload_n 0, 1)], [(.getfield 88, 3), (.athrow, 0), (.athrow, 0), (.if_icmp .ge 37, 3), (.athrow, 0), (.athrow, 0), (.aload_n 0, 1), (.iload_n 1, 1)], [(.iload_n 2, 1), (.invokevirtual 373, 3), (.athrow, 0), (.athrow, 0), (.aload_n 0, 1), (.iload_n 2, 1), (.iload_n 1, 1), (.invokevirtual 373, 3)], [(.athrow, 0), (.athrow, 0), (.iadd, 1), (.istore_n 3, 1), (.aload_n 0, 1), (.iload_n 1, 1), (.iload_n 2, 1), (.aload_n 0, 1)], [(.iload_n 1, 1), (.iload_n 2, 1), (.invokevirtual 139, 3), (.athrow, 0), (.athrow, 0), (.iload_n 3, 1), (.isub, 1), (.invokevirtual 133, 3)], [(.athrow, 0), (.athrow, 0), (.iinc 2 1, 3), (.athrow, 0), (.athrow, 0), (.goto (-39), 3), (.athrow, 0), (.athrow, 0)], [(.iinc 1 1, 3), (.athrow, 0), (.athrow, 0), (.goto (-57), 3), (.athrow, 0), (.athrow, 0), (.aload_n 0, 1), (.dup, 1)], [(.getfield 121, 3), (.athrow, 0), (.athrow, 0), (.iconst 1, 1), (.iadd, 1), (.putfield 121, 3), (.athrow, 0), (.athrow, 0)], [(.return_, 1)]]
def xt190 : xTb := [[(.aload_n 0, 1), (.invokevirtual 376, 3), (.athrow, 0), (.athrow, 0), (.aload_n 0, 1), (.invokevirtual 379, 3), (.athrow, 0), (.athrow, 0)], [(.ireturn, 1)]]
def xt191 : xTb := [[(.aload_n 0, 1), (.getfield 121, 3), (.athrow, 0), (.athrow, 0), (.sipush 999, 3), (.athrow, 0), (.athrow, 0), (.if_icmp .ne 6, 3)], [(.athrow, 0), (.athrow, 0), (.bipush (-3), 2), (.athrow, 0), (.ireturn, 1), (.aload_n 0, 1), (.invokevirtual 382, 3), (.athrow, 0)], [(.athrow, 0), (.aload_n 0, 1), (.invokevirtual 379, 3), (.athrow, 0), (.athrow, 0), (.ireturn, 1)]]
def xt192 : xTb := [[(.iload_n 1, 1), (.iload_n 2, 1), (.if_icmp .eq 19, 3), (.athrow, 0), (.athrow, 0), (.iload_n 1, 1), (.aload_n 0, 1), (.getfield 44, 3)], [(.athrow, 0), (.athrow, 0), (.if_icmp .eq 11, 3), (.athrow, 0), (.athrow, 0), (.iload_n 2, 1), (.aload_n 0, 1), (.getfield 44, 3)], [(.athrow, 0), (.athrow, 0), (.if_icmp .ne 5, 3), (.athrow, 0), (.athrow, 0), (.iconst 0, 1), (.ireturn, 1), (.aload_n 0, 1)], [(.iload_n 1, 1), (.iload_n 2, 1), (.invokevirtual 139, 3), (.athrow, 0), (.athrow, 0), (.aload_n 0, 1), (.getfield 23, 3), (.athrow, 0)], [(.athrow, 0), (.if_icmp .ge 35, 3), (.athrow, 0), (.athrow, 0), (.iload_n 1, 1), (.aload_n 0, 1), (.getfield 38, 3), (.athrow, 0)], [(.athrow, 0), (.if_icmp .ne 11, 3), (.athrow, 0), (.athrow, 0), (.iload_n 2, 1), (.aload_n 0, 1), (.getfield 41, 3), (.athrow, 0)], [(.athrow, 0), (.if_icmp .eq 19, 3), (.athrow, 0), (.athrow, 0), (.iload_n 1, 1), (.aload_n 0, 1), (.getfield 41, 3), (.athrow, 0)], [(.athrow, 0), (.if_icmp .ne 15, 3), (.athrow, 0), (.athrow, 0), (.iload_n 2, 1), (.aload_n 0, 1), (.getfield 38, 3), (.athrow, 0)], [(.athrow, 0), (.if_icmp .ne 7, 3), (.athrow, 0), (.athrow, 0), (.iconst 1, 1), (.goto 4, 3), (.athrow, 0), (.athrow, 0)], [(.iconst 0, 1), (.ireturn, 1)]]
def xt193 : xTb := [[(.iconst 0, 1), (.istore_n 1, 1), (.iconst 0, 1), (.istore_n 2, 1), (.iload_n 2, 1), (.aload_n 0, 1), (.getfield 88, 3), (.athrow, 0)], [(.athrow, 0), (.if_icmp .ge 44, 3), (.athrow, 0), (.athrow, 0), (.iload_n 2, 1), (.iconst 1, 1), (.iadd, 1), (.istore_n 3, 1)], [(.iload_n 3, 1), (.aload_n 0, 1), (.getfield 88, 3), (.athrow, 0), (.athrow, 0), (.if_icmp .ge 26, 3), (.athrow, 0), (.athrow, 0)], [(.iload_n 1, 1), (.aload_n 0, 1), (.iload_n 2, 1), (.iload_n 3, 1), (.invokevirtual 155, 3), (.athrow, 0), (.athrow, 0), (.ifCond .eq 7, 3)], [(.athrow, 0), (.athrow, 0), (.iconst 1, 1), (.goto 4, 3), (.athrow, 0), (.athrow, 0), (.iconst 0, 1), (.iadd, 1)], [(.istore_n 1, 1), (.iinc 3 1, 3), (.athrow, 0), (.athrow, 0), (.goto (-28), 3), (.athrow, 0), (.athrow, 0), (.iinc 2 1, 3)], [(.athrow, 0), (.athrow, 0), (.goto (-46), 3), (.athrow, 0), (.athrow, 0), (.iload_n 1, 1), (.ireturn, 1)]]
def xt194 : xTb := [[(.iconst 0, 1), (.istore_n 1, 1), (.iload_n 1, 1), (.aload_n 0, 1), (.getfield 88, 3), (.athrow, 0), (.athrow, 0), (.if_icmp .ge 59, 3)], [(.athrow, 0), (.athrow, 0), (.iconst 0, 1), (.istore_n 2, 1), (.iload_n 2, 1), (.aload_n 0, 1), (.getfield 88, 3), (.athrow, 0)], [(.athrow, 0), (.if_icmp .ge 43, 3), (.athrow, 0), (.athrow, 0), (.aload_n 0, 1), (.getfield 47, 3), (.athrow, 0), (.athrow, 0)], [(.bipush 8, 2), (.athrow, 0), (.iload_n 1, 1), (.imul, 1), (.iload_n 2, 1), (.iadd, 1), (.iload_n 1, 1), (.iload_n 2, 1)], [(.if_icmp .ne 7, 3), (.athrow, 0), (.athrow, 0), (.iconst 0, 1), (.goto 17, 3), (.athrow, 0), (.athrow, 0), (.aload_n 0, 1)], [(.iload_n 1, 1), (.iload_n 2, 1), (.invokevirtual 155, 3), (.athrow, 0), (.athrow, 0), (.ifCond .eq 7, 3), (.athrow, 0), (.athrow, 0)], [(.iconst 1, 1), (.goto 4, 3), (.athrow, 0), (.athrow, 0), (.iconst (-1), 1), (.iastore, 1), (.iinc 2 1, 3), (.athrow, 0)], [(.athrow, 0), (.goto (-45), 3), (.athrow, 0), (.athrow, 0), (.iinc 1 1, 3), (.athrow, 0), (.athrow, 0), (.goto (-61), 3)], [(.athrow, 0), (.athrow, 0), (.iconst 0, 1), (.istore_n 1, 1), (.iload_n 1, 1), (.aload_n 0, 1), (.getfield 88, 3), (.athrow, 0)], [(.athrow, 0), (.if_icmp .ge 124, 3), (.athrow, 0), (.athrow, 0), (.iconst 0, 1), (.istore_n 2, 1), (.iload_n 2, 1), (.aload_n 0, 1)], [(.getfield 88, 3), (.athrow, 0), (.athrow, 0), (.if_icmp .ge 108, 3), (.athrow, 0), (.athrow, 0), (.iconst 0, 1), (.istore_n 3, 1)], [(.iload_n 3, 1), (.aload_n 0, 1), (.getfield 88, 3), (.athrow, 0), (.athrow, 0), (.if_icmp .ge 92, 3), (.athrow, 0), (.athrow, 0)], [(.aload_n 0, 1), (.getfield 47, 3), (.athrow, 0), (.athrow, 0), (.bipush 8, 2), (.athrow, 0), (.iload_n 2, 1), (.imul, 1)], [(.iload_n 1, 1), (.iadd, 1), (.iaload, 1), (.istore 4, 2), (.athrow, 0), (.aload_n 0, 1), (.getfield 47, 3), (.athrow, 0)], [(.athrow, 0), (.bipush 8, 2), (.athrow, 0), (.iload_n 1, 1), (.imul, 1), (.iload_n 3, 1), (.iadd, 1), (.iaload, 1)], [(.istore 5, 2), (.athrow, 0), (.aload_n 0, 1), (.getfield 47, 3), (.athrow, 0), (.athrow, 0), (.bipush 8, 2), (.athrow, 0)], [(.iload_n 2, 1), (.imul, 1), (.iload_n 3, 1), (.iadd, 1), (.iaload, 1), (.istore 6, 2), (.athrow, 0), (.iload 4, 2)], [(.athrow, 0), (.iconst (-1), 1), (.if_icmp .eq 41, 3), (.athrow, 0), (.athrow, 0), (.iload 5, 2), (.athrow, 0), (.iconst (-1), 1)], [(.if_icmp .eq 35, 3), (.athrow, 0), (.athrow, 0), (.iload 6, 2), (.athrow, 0), (.iconst (-1), 1), (.if_icmp .eq 13, 3), (.athrow, 0)], [(.athrow, 0), (.iload 4, 2), (.athrow, 0), (.iload 5, 2), (.athrow, 0), (.iadd, 1), (.iload 6, 2), (.athrow, 0)], [(.if_icmp .ge 19, 3), (.athrow, 0), (.athrow, 0), (.aload_n 0, 1), (.getfield 47, 3), (.athrow, 0), (.athrow, 0), (.bipush 8, 2)], [(.athrow, 0), (.iload_n 2, 1), (.imul, 1), (.iload_n 3, 1), (.iadd, 1), (.iload 4, 2), (.athrow, 0), (.iload 5, 2)], [(.athrow, 0), (.iadd, 1), (.iastore, 1), (.iinc 3 1, 3), (.athrow, 0), (.athrow, 0), (.goto (-94), 3), (.athrow, 0)], [(.athrow, 0), (.iinc 2 1, 3), (.athrow, 0), (.athrow, 0), (.goto (-110), 3), (.athrow, 0), (.athrow, 0), (.iinc 1 1, 3)], [(.athrow, 0), (.athrow, 0), (.goto (-126), 3), (.athrow, 0), (.athrow, 0), (.return_, 1)]]
def xt195 : xTb := [[(.iconst 0, 1), (.istore_n 1, 1), (.iconst 0, 1), (.istore_n 2, 1), (.iload_n 2, 1), (.aload_n 0, 1), (.getfield 88, 3), (.athrow, 0)], [(.athrow, 0), (.if_icmp .ge 76, 3), (.athrow, 0), (.athrow, 0), (.iload_n 2, 1), (.aload_n 0, 1), (.getfield 44, 3), (.athrow, 0)], [(.athrow, 0), (.if_icmp .eq 7, 3), (.athrow, 0), (.athrow, 0), (.iconst 1, 1), (.goto 4, 3), (.athrow, 0), (.athrow, 0)], [(.iconst 0, 1), (.istore_n 3, 1), (.iconst 0, 1), (.istore 4, 2), (.athrow, 0), (.iload 4, 2), (.athrow, 0), (.iload_n 2, 1)], [(.if_icmp .ge 35, 3), (.athrow, 0), (.athrow, 0), (.iload_n 3, 1), (.ifCond .eq 23, 3), (.athrow, 0), (.athrow, 0), (.aload_n 0, 1)], [(.getfield 47, 3), (.athrow, 0), (.athrow, 0), (.bipush 8, 2), (.athrow, 0), (.iload_n 2, 1), (.imul, 1), (.iload 4, 2)], [(.athrow, 0), (.iadd, 1), (.iaload, 1), (.iconst (-1), 1), (.if_icmp .ne 7, 3), (.athrow, 0), (.athrow, 0), (.iconst 1, 1)], [(.goto 4, 3), (.athrow, 0), (.athrow, 0), (.iconst 0, 1), (.istore_n 3, 1), (.iinc 4 1, 3), (.athrow, 0), (.athrow, 0)], [(.goto (-35), 3), (.athrow, 0), (.athrow, 0), (.iload_n 1, 1), (.iload_n 3, 1), (.ifCond .eq 7, 3), (.athrow, 0), (.athrow, 0)], [(.iconst 1, 1), (.goto 4, 3), (.athrow, 0), (.athrow, 0), (.iconst 0, 1), (.iadd, 1), (.istore_n 1, 1), (.iinc 2 1, 3)], [(.athrow, 0), (.athrow, 0), (.goto (-78), 3), (.athrow, 0), (.athrow, 0), (.iload_n 1, 1), (.ireturn, 1)]]
def xt196 : xTb := [[(.iconst 0, 1), (.istore_n 1, 1), (.iconst 0, 1), (.istore_n 2, 1), (.iload_n 2, 1), (.aload_n 0, 1), (.getfield 88, 3), (.athrow, 0)], [(.athrow, 0), (.if_icmp .ge 64, 3), (.athrow, 0), (.athrow, 0), (.iconst 0, 1), (.istore_n 3, 1), (.iconst 0, 1), (.istore 4, 2)], [(.athrow, 0), (.iload 4, 2), (.athrow, 0), (.aload_n 0, 1), (.getfield 88, 3), (.athrow, 0), (.athrow, 0), (.if_icmp .ge 33, 3)], [(.athrow, 0), (.athrow, 0), (.iload_n 3, 1), (.aload_n 0, 1), (.getfield 47, 3), (.athrow, 0), (.athrow, 0), (.bipush 8, 2)], [(.athrow, 0), (.iload_n 2, 1), (.imul, 1), (.iload 4, 2), (.athrow, 0), (.iadd, 1), (.iaload, 1), (.iconst (-1), 1)], [(.if_icmp .ne 7, 3), (.athrow, 0), (.athrow, 0), (.iconst 0, 1), (.goto 4, 3), (.athrow, 0), (.athrow, 0), (.iconst 1, 1)], [(.iadd, 1), (.istore_n 3, 1), (.iinc 4 1, 3), (.athrow, 0), (.athrow, 0), (.goto (-36), 3), (.athrow, 0), (.athrow, 0)], [(.iload_n 3, 1), (.iload_n 1, 1), (.if_icmp .le 7, 3), (.athrow, 0), (.athrow, 0), (.iload_n 3, 1), (.goto 4, 3), (.athrow, 0)], [(.athrow, 0), (.iload_n 1, 1), (.istore_n 1, 1), (.iinc 2 1, 3), (.athrow, 0), (.athrow, 0), (.goto (-66), 3), (.athrow, 0)], [(.athrow, 0), (.iload_n 1, 1), (.ireturn, 1)]]
def xt197 : xTb := [[(.iconst 0, 1), (.istore_n 2, 1), (.iconst 0, 1), (.istore_n 3, 1), (.iload_n 3, 1), (.aload_n 0, 1), (.getfield 88, 3), (.athrow, 0)], [(.athrow, 0), (.if_icmp .ge 74, 3), (.athrow, 0), (.athrow, 0), (.iconst 0, 1), (.istore 4, 2), (.athrow, 0), (.iload 4, 2)], [(.athrow, 0), (.aload_n 0, 1), (.getfield 88, 3), (.athrow, 0), (.athrow, 0), (.if_icmp .ge 56, 3), (.athrow, 0), (.athrow, 0)], [(.aload_n 0, 1), (.getfield 47, 3), (.athrow, 0), (.athrow, 0), (.bipush 8, 2), (.athrow, 0), (.iload_n 3, 1), (.imul, 1)], [(.iload 4, 2), (.athrow, 0), (.iadd, 1), (.iaload, 1), (.iconst (-1), 1), (.if_icmp .ne 7, 3), (.athrow, 0), (.athrow, 0)], [(.iload_n 1, 1), (.goto 15, 3), (.athrow, 0), (.athrow, 0), (.aload_n 0, 1), (.getfield 47, 3), (.athrow, 0), (.athrow, 0)], [(.bipush 8, 2), (.athrow, 0), (.iload_n 3, 1), (.imul, 1), (.iload 4, 2), (.athrow, 0), (.iadd, 1), (.iaload, 1)], [(.istore 5, 2), (.athrow, 0), (.iload 5, 2), (.athrow, 0), (.iload_n 2, 1), (.if_icmp .le 8, 3), (.athrow, 0), (.athrow, 0)], [(.iload 5, 2), (.athrow, 0), (.goto 4, 3), (.athrow, 0), (.athrow, 0), (.iload_n 2, 1), (.istore_n 2, 1), (.iinc 4 1, 3)], [(.athrow, 0), (.athrow, 0), (.goto (-59), 3), (.athrow, 0), (.athrow, 0), (.iinc 3 1, 3), (.athrow, 0), (.athrow, 0)], [(.goto (-76), 3), (.athrow, 0), (.athrow, 0), (.iload_n 2, 1), (.ireturn, 1)]]
def xt198 : xTb := [[(.iconst 0, 1), (.istore_n 1, 1), (.iconst 0, 1), (.istore_n 2, 1), (.iload_n 2, 1), (.aload_n 0, 1), (.getfield 88, 3), (.athrow, 0)], [(.athrow, 0), (.if_icmp .ge 36, 3), (.athrow, 0), (.athrow, 0), (.iload_n 2, 1), (.iconst 1, 1), (.iadd, 1), (.istore_n 3, 1)], [(.iload_n 3, 1), (.aload_n 0, 1), (.getfield 88, 3), (.athrow, 0), (.athrow, 0), (.if_icmp .ge 18, 3), (.athrow, 0), (.athrow, 0)], [(.iload_n 1, 1), (.aload_n 0, 1), (.iload_n 2, 1), (.iload_n 3, 1), (.invokevirtual 139, 3), (.athrow, 0), (.athrow, 0), (.iadd, 1)], [(.istore_n 1, 1), (.iinc 3 1, 3), (.athrow, 0), (.athrow, 0), (.goto (-20), 3), (.athrow, 0), (.athrow, 0), (.iinc 2 1, 3)], [(.athrow, 0), (.athrow, 0), (.goto (-38), 3), (.athrow, 0), (.athrow, 0), (.iload_n 1, 1), (.ireturn, 1)]]
def xt199 : xTb := [[(.iconst (-1), 1), (.istore_n 1, 1), (.iconst 0, 1), (.istore_n 2, 1), (.iconst 0, 1), (.istore_n 3, 1), (.iload_n 3, 1), (.iconst 4, 1)], [(.if_icmp .ge 79, 3), (.athrow, 0), (.athrow, 0), (.iconst 0, 1), (.istore 4, 2), (.athrow, 0), (.iconst 0, 1), (.istore 5, 2)], [(.athrow, 0), (.iconst 0, 1), (.istore 6, 2), (.athrow, 0), (.iload 6, 2), (.athrow, 0), (.aload_n 0, 1), (.getfield 88, 3)], [(.athrow, 0), (.athrow, 0), (.if_icmp .ge 34, 3), (.athrow, 0), (.athrow, 0), (.aload_n 0, 1), (.getfield 32, 3), (.athrow, 0)], [(.athrow, 0), (.iload 6, 2), (.athrow, 0), (.iaload, 1), (.iload_n 3, 1), (.if_icmp .ne 17, 3), (.athrow, 0), (.athrow, 0)], [(.iinc 4 1, 3), (.athrow, 0), (.athrow, 0), (.iload 5, 2), (.athrow, 0), (.aload_n 0, 1), (.iload 6, 2), (.athrow, 0)], [(.invokevirtual 152, 3), (.athrow, 0), (.athrow, 0), (.iadd, 1), (.istore 5, 2), (.athrow, 0), (.iinc 6 1, 3), (.athrow, 0)], [(.athrow, 0), (.goto (-37), 3), (.athrow, 0), (.athrow, 0), (.iload 4, 2), (.athrow, 0), (.ifCond .le 19, 3), (.athrow, 0)], [(.athrow, 0), (.iload_n 1, 1), (.iconst (-1), 1), (.if_icmp .eq 9, 3), (.athrow, 0), (.athrow, 0), (.iload 5, 2), (.athrow, 0)], [(.iload_n 2, 1), (.if_icmp .ge 8, 3), (.athrow, 0), (.athrow, 0), (.iload_n 3, 1), (.istore_n 1, 1), (.iload 5, 2), (.athrow, 0)], [(.istore_n 2, 1), (.iinc 3 1, 3), (.athrow, 0), (.athrow, 0), (.goto (-78), 3), (.athrow, 0), (.athrow, 0), (.iload_n 1, 1)], [(.ireturn, 1)]]
def xt200 : xTb := [[(.aload_n 0, 1), (.invokevirtual 385, 3), (.athrow, 0), (.athrow, 0), (.iload_n 1, 1), (.ifCond .ne 10, 3), (.athrow, 0), (.athrow, 0)], [(.aload_n 0, 1), (.invokevirtual 379, 3), (.athrow, 0), (.athrow, 0), (.goto 44, 3), (.athrow, 0), (.athrow, 0), (.iload_n 1, 1)], [(.iconst 1, 1), (.if_icmp .ne 10, 3), (.athrow, 0), (.athrow, 0), (.aload_n 0, 1), (.invokevirtual 388, 3), (.athrow, 0), (.athrow, 0)], [(.goto 32, 3), (.athrow, 0), (.athrow, 0), (.iload_n 1, 1), (.iconst 2, 1), (.if_icmp .ne 10, 3), (.athrow, 0), (.athrow, 0)], [(.aload_n 0, 1), (.invokevirtual 391, 3), (.athrow, 0), (.athrow, 0), (.goto 20, 3), (.athrow, 0), (.athrow, 0), (.iload_n 1, 1)], [(.iconst 3, 1), (.if_icmp .ne 10, 3), (.athrow, 0), (.athrow, 0), (.aload_n 0, 1), (.invokevirtual 394, 3), (.athrow, 0), (.athrow, 0)], [(.goto 8, 3), (.athrow, 0), (.athrow, 0), (.aload_n 0, 1), (.iconst 0, 1), (.invokevirtual 397, 3), (.athrow, 0), (.athrow, 0)], [(.ireturn, 1)]]
def xt201 : xTb := [[(.iload_n 1, 1), (.i2l, 1), (.lconst 0, 1), (.ldc2_w 131, 3), (.athrow, 0), (.athrow, 0), (.invokestatic 91, 3), (.athrow, 0)], [(.athrow, 0), (.ifCond .ne 6, 3), (.athrow, 0), (.athrow, 0), (.bipush (-2), 2), (.athrow, 0), (.ireturn, 1), (.iload_n 1, 1)], [(.iconst 5, 1), (.if_icmp .ne 10, 3), (.athrow, 0), (.athrow, 0), (.aload_n 0, 1), (.invokevirtual 400, 3), (.athrow, 0), (.athrow, 0)], [(.goto 8, 3), (.athrow, 0), (.athrow, 0), (.aload_n 0, 1), (.iload_n 1, 1), (.invokevirtual 403, 3), (.athrow, 0), (.athrow, 0)], [(.ireturn, 1)]]
def xt202 : xTb := [[(.aload_n 0, 1), (.iload_n 1, 1), (.invokevirtual 105, 3), (.athrow, 0), (.athrow, 0), (.ifCond .eq 11, 3), (.athrow, 0), (.athrow, 0)], [(.aload_n 0, 1), (.iload_n 2, 1), (.invokevirtual 105, 3), (.athrow, 0), (.athrow, 0), (.ifCond .ne 6, 3), (.athrow, 0), (.athrow, 0)], [(.bipush (-2), 2), (.athrow, 0), (.ireturn, 1), (.aload_n 0, 1), (.invokevirtual 385, 3), (.athrow, 0), (.athrow, 0), (.aload_n 0, 1)], [(.getfield 47, 3), (.athrow, 0), (.athrow, 0), (.bipush 8, 2), (.athrow, 0), (.iload_n 1, 1), (.imul, 1), (.iload_n 2, 1)], [(.iadd, 1), (.iaload, 1), (.ireturn, 1)]]
def xt203 : xTb := [[(.iconst 0, 1), (.istore_n 1, 1), (.iload_n 1, 1), (.bipush 64, 2), (.athrow, 0), (.if_icmp .ge 21, 3), (.athrow, 0), (.athrow, 0)], [(.aload_n 0, 1), (.getfield 50, 3), (.athrow, 0), (.athrow, 0), (.iload_n 1, 1), (.aload_n 0, 1), (.getfield 35, 3), (.athrow, 0)], [(.athrow, 0), (.iload_n 1, 1), (.iaload, 1), (.iastore, 1), (.iinc 1 1, 3), (.athrow, 0), (.athrow, 0), (.goto (-21), 3)], [(.athrow, 0), (.athrow, 0), (.aload_n 0, 1), (.aload_n 0, 1), (.getfield 121, 3), (.athrow, 0), (.athrow, 0), (.putfield 406, 3)], [(.athrow, 0), (.athrow, 0), (.return_, 1)]]
def xt204 : xTb := [[(.iconst 0, 1), (.istore_n 1, 1), (.iload_n 1, 1), (.bipush 64, 2), (.athrow, 0), (.if_icmp .ge 21, 3), (.athrow, 0), (.athrow, 0)], [(.aload_n 0, 1), (.getfield 35, 3), (.athrow, 0), (.athrow, 0), (.iload_n 1, 1), (.aload_n 0, 1), (.getfield 50, 3), (.athrow, 0)], [(.athrow, 0), (.iload_n 1, 1), (.iaload, 1), (.iastore, 1), (.iinc 1 1, 3), (.athrow, 0), (.athrow, 0), (.goto (-21), 3)], [(.athrow, 0), (.athrow, 0), (.aload_n 0, 1), (.aload_n 0, 1), (.getfield 406, 3), (.athrow, 0), (.athrow, 0), (.putfield 121, 3)], [(.athrow, 0), (.athrow, 0), (.return_, 1)]]
def xt205 : xTb := [[(.iconst 0, 1), (.istore_n 2, 1), (.iload_n 2, 1), (.iload_n 1, 1), (.if_icmp .ge 17, 3), (.athrow, 0), (.athrow, 0), (.aload_n 0, 1)], [(.invokevirtual 376, 3), (.athrow, 0), (.athrow, 0), (.aload_n 0, 1), (.invokevirtual 382, 3), (.athrow, 0), (.athrow, 0), (.iinc 2 1, 3)], [(.athrow, 0), (.athrow, 0), (.goto (-16), 3), (.athrow, 0), (.athrow, 0), (.return_, 1)]]
def xt206 : xTb := [[(.iload_n 1, 1), (.i2l, 1), (.lconst 0, 1), (.ldc2_w 409, 3), (.athrow, 0), (.athrow, 0), (.invokestatic 91, 3), (.athrow, 0)], [(.athrow, 0), (.ifCond .eq 15, 3), (.athrow, 0), (.athrow, 0), (.iload_n 2, 1), (.i2l, 1), (.lconst 0, 1), (.ldc2_w 411, 3)], [(.athrow, 0), (.athrow, 0), (.invokestatic 91, 3), (.athrow, 0), (.athrow, 0), (.ifCond .ne 6, 3), (.athrow, 0), (.athrow, 0)], [(.bipush (-2), 2), (.athrow, 0), (.ireturn, 1), (.aload_n 0, 1), (.invokevirtual 413, 3), (.athrow, 0), (.athrow, 0), (.aload_n 0, 1)], [(.iload_n 1, 1), (.invokevirtual 416, 3), (.athrow, 0), (.athrow, 0), (.aload_n 0, 1), (.iload_n 2, 1), (.invokevirtual 403, 3), (.athrow, 0)], [(.athrow, 0), (.istore_n 3, 1), (.aload_n 0, 1), (.invokevirtual 420, 3), (.athrow, 0), (.athrow, 0), (.iload_n 3, 1), (.ireturn, 1)]]
def xt207 : xTb := [[(.aload_n 0, 1), (.invokevirtual 413, 3), (.athrow, 0), (.athrow, 0), (.aload_n 0, 1), (.iload_n 1, 1), (.invokevirtual 416, 3), (.athrow, 0)], [(.athrow, 0), (.aload_n 0, 1), (.invokevirtual 379, 3), (.athrow, 0), (.athrow, 0), (.istore_n 2, 1), (.aload_n 0, 1), (.invokevirtual 420, 3)], [(.athrow, 0), (.athrow, 0), (.iload_n 2, 1), (.ireturn, 1)]]
def xt208 : xTb := [[(.iload_n 1, 1), (.i2l, 1), (.lconst 0, 1), (.ldc2_w 423, 3), (.athrow, 0), (.athrow, 0), (.invokestatic 91, 3), (.athrow, 0)], [(.athrow, 0), (.ifCond .ne 6, 3), (.athrow, 0), (.athrow, 0), (.bipush (-2), 2), (.athrow, 0), (.ireturn, 1), (.aload_n 0, 1)], [(.invokevirtual 413, 3), (.athrow, 0), (.athrow, 0), (.iconst 0, 1), (.istore_n 2, 1), (.iload_n 2, 1), (.bipush 20, 2), (.athrow, 0)], [(.if_icmp .gt 22, 3), (.athrow, 0), (.athrow, 0), (.aload_n 0, 1), (.invokevirtual 379, 3), (.athrow, 0), (.athrow, 0), (.iload_n 1, 1)], [(.if_icmp .ge 14, 3), (.athrow, 0), (.athrow, 0), (.aload_n 0, 1), (.iconst 1, 1), (.invokevirtual 416, 3), (.athrow, 0), (.athrow, 0)], [(.iinc 2 1, 3), (.athrow, 0), (.athrow, 0), (.goto (-22), 3), (.athrow, 0), (.athrow, 0), (.aload_n 0, 1), (.invokevirtual 420, 3)], [(.athrow, 0), (.athrow, 0), (.iload_n 2, 1), (.bipush 20, 2), (.athrow, 0), (.if_icmp .le 7, 3), (.athrow, 0), (.athrow, 0)], [(.iconst (-1), 1), (.goto 4, 3), (.athrow, 0), (.athrow, 0), (.iload_n 2, 1), (.ireturn, 1)]]
def xt209 : xTb := [[(.aload_n 0, 1), (.iload_n 1, 1), (.invokevirtual 105, 3), (.athrow, 0), (.athrow, 0), (.ifCond .eq 25, 3), (.athrow, 0), (.athrow, 0)], [(.iload_n 2, 1), (.i2l, 1), (.lconst 0, 1), (.ldc2_w 409, 3), (.athrow, 0), (.athrow, 0), (.invokestatic 91, 3), (.athrow, 0)], [(.athrow, 0), (.ifCond .eq 13, 3), (.athrow, 0), (.athrow, 0), (.iload_n 3, 1), (.i2l, 1), (.lconst 0, 1), (.lconst 1, 1)], [(.invokestatic 91, 3), (.athrow, 0), (.athrow, 0), (.ifCond .ne 6, 3), (.athrow, 0), (.athrow, 0), (.bipush (-2), 2), (.athrow, 0)], [(.ireturn, 1), (.aload_n 0, 1), (.getfield 32, 3), (.athrow, 0), (.athrow, 0), (.iload_n 1, 1), (.iaload, 1), (.istore 4, 2)], [(.athrow, 0), (.iconst (-1), 1), (.istore 5, 2), (.athrow, 0), (.iconst (-1), 1), (.istore 6, 2), (.athrow, 0), (.iconst 0, 1)], [(.istore 7, 2), (.athrow, 0), (.iload 7, 2), (.athrow, 0), (.iconst 4, 1), (.if_icmp .ge 39, 3), (.athrow, 0), (.athrow, 0)], [(.aload_n 0, 1), (.getfield 32, 3), (.athrow, 0), (.athrow, 0), (.iload_n 1, 1), (.iload 7, 2), (.athrow, 0), (.iastore, 1)], [(.aload_n 0, 1), (.iload_n 2, 1), (.invokevirtual 425, 3), (.athrow, 0), (.athrow, 0), (.istore 8, 2), (.athrow, 0), (.iload 8, 2)], [(.athrow, 0), (.iload 6, 2), (.athrow, 0), (.if_icmp .le 11, 3), (.athrow, 0), (.athrow, 0), (.iload 7, 2), (.athrow, 0)], [(.istore 5, 2), (.athrow, 0), (.iload 8, 2), (.athrow, 0), (.istore 6, 2), (.athrow, 0), (.iinc 7 1, 3), (.athrow, 0)], [(.athrow, 0), (.goto (-39), 3), (.athrow, 0), (.athrow, 0), (.aload_n 0, 1), (.getfield 32, 3), (.athrow, 0), (.athrow, 0)], [(.iload_n 1, 1), (.iload 4, 2), (.athrow, 0), (.iastore, 1), (.iload_n 3, 1), (.ifCond .ne 8, 3), (.athrow, 0), (.athrow, 0)], [(.iload 5, 2), (.athrow, 0), (.goto 5, 3), (.athrow, 0), (.athrow, 0), (.iload 6, 2), (.athrow, 0), (.ireturn, 1)]]
def xt210 : xTb := [[(.iload_n 1, 1), (.i2l, 1), (.lconst 0, 1), (.ldc2_w 409, 3), (.athrow, 0), (.athrow, 0), (.invokestatic 91, 3), (.athrow, 0)], [(.athrow, 0), (.ifCond .eq 13, 3), (.athrow, 0), (.athrow, 0), (.iload_n 2, 1), (.i2l, 1), (.lconst 0, 1), (.lconst 1, 1)], [(.invokestatic 91, 3), (.athrow, 0), (.athrow, 0), (.ifCond .ne 6, 3), (.athrow, 0), (.athrow, 0), (.bipush (-2), 2), (.athrow, 0)], [(.ireturn, 1), (.iconst (-1), 1), (.istore_n 3, 1), (.aload_n 0, 1), (.iload_n 1, 1), (.invokevirtual 425, 3), (.athrow, 0), (.athrow, 0)], [(.istore 4, 2), (.athrow, 0), (.iconst 0, 1), (.istore 5, 2), (.athrow, 0), (.iload 5, 2), (.athrow, 0), (.aload_n 0, 1)], [(.getfield 88, 3), (.athrow, 0), (.athrow, 0), (.if_icmp .ge 130, 3), (.athrow, 0), (.athrow, 0), (.iload 5, 2), (.athrow, 0)], [(.iconst 1, 1), (.iadd, 1), (.istore 6, 2), (.athrow, 0), (.iload 6, 2), (.athrow, 0), (.aload_n 0, 1), (.getfield 88, 3)], [(.athrow, 0), (.athrow, 0), (.if_icmp .ge 109, 3), (.athrow, 0), (.athrow, 0), (.aload_n 0, 1), (.getfield 32, 3), (.athrow, 0)], [(.athrow, 0), (.iload 5, 2), (.athrow, 0), (.iaload, 1), (.istore 7, 2), (.athrow, 0), (.aload_n 0, 1), (.getfield 32, 3)], [(.athrow, 0), (.athrow, 0), (.iload 6, 2), (.athrow, 0), (.iaload, 1), (.istore 8, 2), (.athrow, 0), (.iload 7, 2)], [(.athrow, 0), (.iconst (-1), 1), (.if_icmp .eq 79, 3), (.athrow, 0), (.athrow, 0), (.iload 8, 2), (.athrow, 0), (.iconst (-1), 1)], [(.if_icmp .eq 73, 3), (.athrow, 0), (.athrow, 0), (.iload 7, 2), (.athrow, 0), (.iload 8, 2), (.athrow, 0), (.if_icmp .eq 66, 3)], [(.athrow, 0), (.athrow, 0), (.aload_n 0, 1), (.getfield 32, 3), (.athrow, 0), (.athrow, 0), (.iload 5, 2), (.athrow, 0)], [(.iload 8, 2), (.athrow, 0), (.iastore, 1), (.aload_n 0, 1), (.getfield 32, 3), (.athrow, 0), (.athrow, 0), (.iload 6, 2)], [(.athrow, 0), (.iload 7, 2), (.athrow, 0), (.iastore, 1), (.aload_n 0, 1), (.iload_n 1, 1), (.invokevirtual 425, 3), (.athrow, 0)], [(.athrow, 0), (.istore 9, 2), (.athrow, 0), (.aload_n 0, 1), (.getfield 32, 3), (.athrow, 0), (.athrow, 0), (.iload 5, 2)], [(.athrow, 0), (.iload 7, 2), (.athrow, 0), (.iastore, 1), (.aload_n 0, 1), (.getfield 32, 3), (.athrow, 0), (.athrow, 0)], [(.iload 6, 2), (.athrow, 0), (.iload 8, 2), (.athrow, 0), (.iastore, 1), (.iload 9, 2), (.athrow, 0), (.iload 4, 2)], [(.athrow, 0), (.if_icmp .le 16, 3), (.athrow, 0), (.athrow, 0), (.bipush 10, 2), (.athrow, 0), (.iload 5, 2), (.athrow, 0)], [(.imul, 1), (.iload 6, 2), (.athrow, 0), (.iadd, 1), (.istore_n 3, 1), (.iload 9, 2), (.athrow, 0), (.istore 4, 2)], [(.athrow, 0), (.iinc 6 1, 3), (.athrow, 0), (.athrow, 0), (.goto (-112), 3), (.athrow, 0), (.athrow, 0), (.iinc 5 1, 3)], [(.athrow, 0), (.athrow, 0), (.goto (-133), 3), (.athrow, 0), (.athrow, 0), (.iload_n 2, 1), (.ifCond .ne 7, 3), (.athrow, 0)], [(.athrow, 0), (.iload_n 3, 1), (.goto 5, 3), (.athrow, 0), (.athrow, 0), (.iload 4, 2), (.athrow, 0), (.ireturn, 1)]]
def xt211 : xTb := [[(.iconst 0, 1), (.istore_n 1, 1), (.iload_n 1, 1), (.aload_n 0, 1), (.getfield 88, 3), (.athrow, 0), (.athrow, 0), (.if_icmp .ge 21, 3)], [(.athrow, 0), (.athrow, 0), (.aload_n 0, 1), (.getfield 53, 3), (.athrow, 0), (.athrow, 0), (.iload_n 1, 1), (.aload_n 0, 1)], [(.getfield 32, 3), (.athrow, 0), (.athrow, 0), (.iload_n 1, 1), (.iaload, 1), (.iastore, 1), (.iinc 1 1, 3), (.athrow, 0)], [(.athrow, 0), (.goto (-23), 3), (.athrow, 0), (.athrow, 0), (.return_, 1)]]
def xt212 : xTb := [[(.iconst 0, 1), (.istore_n 1, 1), (.iload_n 1, 1), (.aload_n 0, 1), (.getfield 88, 3), (.athrow, 0), (.athrow, 0), (.if_icmp .ge 21, 3)], [(.athrow, 0), (.athrow, 0), (.aload_n 0, 1), (.getfield 32, 3), (.athrow, 0), (.athrow, 0), (.iload_n 1, 1), (.aload_n 0, 1)], [(.getfield 53, 3), (.athrow, 0), (.athrow, 0), (.iload_n 1, 1), (.iaload, 1), (.iastore, 1), (.iinc 1 1, 3), (.athrow, 0)], [(.athrow, 0), (.goto (-23), 3), (.athrow, 0), (.athrow, 0), (.return_, 1)]]
def xt213 : xTb := [[(.iload_n 1, 1), (.i2l, 1), (.lconst 0, 1), (.ldc2_w 428, 3), (.athrow, 0), (.athrow, 0), (.invokestatic 91, 3), (.athrow, 0)], [(.athrow, 0), (.ifCond .eq 13, 3), (.athrow, 0), (.athrow, 0), (.iload_n 2, 1), (.i2l, 1), (.lconst 0, 1), (.lconst 1, 1)], [(.invokestatic 91, 3), (.athrow, 0), (.athrow, 0), (.ifCond .ne 6, 3), (.athrow, 0), (.athrow, 0), (.bipush (-2), 2), (.athrow, 0)], [(.ireturn, 1), (.aload_n 0, 1), (.invokevirtual 430, 3), (.athrow, 0), (.athrow, 0), (.iconst 0, 1), (.istore_n 3, 1), (.iconst (-1), 1)], [(.istore 4, 2), (.athrow, 0), (.iconst 0, 1), (.istore 5, 2), (.athrow, 0), (.iload 5, 2), (.athrow, 0), (.iconst 1, 1)], [(.aload_n 0, 1), (.getfield 88, 3), (.athrow, 0), (.athrow, 0), (.ishl, 1), (.if_icmp .ge 62, 3), (.athrow, 0), (.athrow, 0)], [(.iconst 0, 1), (.istore 6, 2), (.athrow, 0), (.iload 6, 2), (.athrow, 0), (.aload_n 0, 1), (.getfield 88, 3), (.athrow, 0)], [(.athrow, 0), (.if_icmp .ge 23, 3), (.athrow, 0), (.athrow, 0), (.aload_n 0, 1), (.getfield 32, 3), (.athrow, 0), (.athrow, 0)], [(.iload 6, 2), (.athrow, 0), (.iload 5, 2), (.athrow, 0), (.iload 6, 2), (.athrow, 0), (.ishr, 1), (.iconst 1, 1)], [(.iand, 1), (.iastore, 1), (.iinc 6 1, 3), (.athrow, 0), (.athrow, 0), (.goto (-26), 3), (.athrow, 0), (.athrow, 0)], [(.aload_n 0, 1), (.iload_n 1, 1), (.invokevirtual 425, 3), (.athrow, 0), (.athrow, 0), (.istore 6, 2), (.athrow, 0), (.iload 6, 2)], [(.athrow, 0), (.iload 4, 2), (.athrow, 0), (.if_icmp .le 10, 3), (.athrow, 0), (.athrow, 0), (.iload 5, 2), (.athrow, 0)], [(.istore_n 3, 1), (.iload 6, 2), (.athrow, 0), (.istore 4, 2), (.athrow, 0), (.iinc 5 1, 3), (.athrow, 0), (.athrow, 0)], [(.goto (-67), 3), (.athrow, 0), (.athrow, 0), (.aload_n 0, 1), (.invokevirtual 433, 3), (.athrow, 0), (.athrow, 0), (.iload_n 2, 1)], [(.ifCond .ne 7, 3), (.athrow, 0), (.athrow, 0), (.iload_n 3, 1), (.goto 5, 3), (.athrow, 0), (.athrow, 0), (.iload 4, 2)], [(.athrow, 0), (.ireturn, 1)]]
def xt214 : xTb := [[(.iload_n 1, 1), (.i2l, 1), (.lconst 0, 1), (.lconst 1, 1), (.invokestatic 91, 3), (.athrow, 0), (.athrow, 0), (.ifCond .ne 6, 3)], [(.athrow, 0), (.athrow, 0), (.bipush (-2), 2), (.athrow, 0), (.ireturn, 1), (.iconst (-1), 1), (.istore_n 2, 1), (.iconst (-1), 1)], [(.istore_n 3, 1), (.iconst 0, 1), (.istore 4, 2), (.athrow, 0), (.iload 4, 2), (.athrow, 0), (.aload_n 0, 1), (.getfield 88, 3)], [(.athrow, 0), (.athrow, 0), (.if_icmp .ge 42, 3), (.athrow, 0), (.athrow, 0), (.aload_n 0, 1), (.iload 4, 2), (.athrow, 0)], [(.putfield 44, 3), (.athrow, 0), (.athrow, 0), (.aload_n 0, 1), (.invokevirtual 385, 3), (.athrow, 0), (.athrow, 0), (.aload_n 0, 1)], [(.invokevirtual 388, 3), (.athrow, 0), (.athrow, 0), (.istore 5, 2), (.athrow, 0), (.aload_n 0, 1), (.iconst (-1), 1), (.putfield 44, 3)], [(.athrow, 0), (.athrow, 0), (.iload 5, 2), (.athrow, 0), (.iload_n 3, 1), (.if_icmp .le 9, 3), (.athrow, 0), (.athrow, 0)], [(.iload 4, 2), (.athrow, 0), (.istore_n 2, 1), (.iload 5, 2), (.athrow, 0), (.istore_n 3, 1), (.iinc 4 1, 3), (.athrow, 0)], [(.athrow, 0), (.goto (-45), 3), (.athrow, 0), (.athrow, 0), (.iload_n 1, 1), (.ifCond .ne 7, 3), (.athrow, 0), (.athrow, 0)], [(.iload_n 2, 1), (.goto 4, 3), (.athrow, 0), (.athrow, 0), (.iload_n 3, 1), (.ireturn, 1)]]
def xt215 : xTb := [[(.iload_n 1, 1), (.i2l, 1), (.lconst 0, 1), (.lconst 1, 1), (.invokestatic 91, 3), (.athrow, 0), (.athrow, 0), (.ifCond .ne 6, 3)], [(.athrow, 0), (.athrow, 0), (.bipush (-2), 2), (.athrow, 0), (.ireturn, 1), (.aload_n 0, 1), (.invokevirtual 385, 3), (.athrow, 0)], [(.athrow, 0), (.iconst (-1), 1), (.istore_n 2, 1), (.aload_n 0, 1), (.bipush 9, 2), (.athrow, 0), (.invokevirtual 397, 3), (.athrow, 0)], [(.athrow, 0), (.istore_n 3, 1), (.iconst 0, 1), (.istore 4, 2), (.athrow, 0), (.iload 4, 2), (.athrow, 0), (.aload_n 0, 1)], [(.getfield 88, 3), (.athrow, 0), (.athrow, 0), (.if_icmp .ge 93, 3), (.athrow, 0), (.athrow, 0), (.iload 4, 2), (.athrow, 0)], [(.iconst 1, 1), (.iadd, 1), (.istore 5, 2), (.athrow, 0), (.iload 5, 2), (.athrow, 0), (.aload_n 0, 1), (.getfield 88, 3)], [(.athrow, 0), (.athrow, 0), (.if_icmp .ge 72, 3), (.athrow, 0), (.athrow, 0), (.aload_n 0, 1), (.iload 4, 2), (.athrow, 0)], [(.iload 5, 2), (.athrow, 0), (.invokevirtual 155, 3), (.athrow, 0), (.athrow, 0), (.ifCond .ne 55, 3), (.athrow, 0), (.athrow, 0)], [(.aload_n 0, 1), (.iload 4, 2), (.athrow, 0), (.putfield 38, 3), (.athrow, 0), (.athrow, 0), (.aload_n 0, 1), (.iload 5, 2)], [(.athrow, 0), (.putfield 41, 3), (.athrow, 0), (.athrow, 0), (.aload_n 0, 1), (.invokevirtual 385, 3), (.athrow, 0), (.athrow, 0)], [(.aload_n 0, 1), (.iconst (-1), 1), (.putfield 38, 3), (.athrow, 0), (.athrow, 0), (.aload_n 0, 1), (.iconst (-1), 1), (.putfield 41, 3)], [(.athrow, 0), (.athrow, 0), (.aload_n 0, 1), (.bipush 9, 2), (.athrow, 0), (.invokevirtual 397, 3), (.athrow, 0), (.athrow, 0)], [(.istore 6, 2), (.athrow, 0), (.iload 6, 2), (.athrow, 0), (.iload_n 3, 1), (.if_icmp .ge 15, 3), (.athrow, 0), (.athrow, 0)], [(.bipush 10, 2), (.athrow, 0), (.iload 4, 2), (.athrow, 0), (.imul, 1), (.iload 5, 2), (.athrow, 0), (.iadd, 1)], [(.istore_n 2, 1), (.iload 6, 2), (.athrow, 0), (.istore_n 3, 1), (.iinc 5 1, 3), (.athrow, 0), (.athrow, 0), (.goto (-75), 3)], [(.athrow, 0), (.athrow, 0), (.iinc 4 1, 3), (.athrow, 0), (.athrow, 0), (.goto (-96), 3), (.athrow, 0), (.athrow, 0)], [(.iload_n 1, 1), (.ifCond .ne 7, 3), (.athrow, 0), (.athrow, 0), (.iload_n 2, 1), (.goto 4, 3), (.athrow, 0), (.athrow, 0)], [(.iload_n 3, 1), (.ireturn, 1)]]
def xt216 : xTb := [[(.aload_n 0, 1), (.invokevirtual 413, 3), (.athrow, 0), (.athrow, 0), (.aload_n 0, 1), (.invokevirtual 376, 3), (.athrow, 0), (.athrow, 0)], [(.iconst 0, 1), (.istore_n 3, 1), (.iconst 0, 1), (.istore 4, 2), (.athrow, 0), (.iload 4, 2), (.athrow, 0), (.aload_n 0, 1)], [(.getfield 88, 3), (.athrow, 0), (.athrow, 0), (.if_icmp .ge 42, 3), (.athrow, 0), (.athrow, 0), (.iload_n 3, 1), (.aload_n 0, 1)], [(.iload_n 2, 1), (.iload 4, 2), (.athrow, 0), (.invokevirtual 139, 3), (.athrow, 0), (.athrow, 0), (.aload_n 0, 1), (.getfield 78, 3)], [(.athrow, 0), (.athrow, 0), (.bipush 40, 2), (.athrow, 0), (.iload_n 1, 1), (.imul, 1), (.iload 4, 2), (.athrow, 0)], [(.iadd, 1), (.iaload, 1), (.if_icmp .ne 7, 3), (.athrow, 0), (.athrow, 0), (.iconst 0, 1), (.goto 4, 3), (.athrow, 0)], [(.athrow, 0), (.iconst 1, 1), (.iload 4, 2), (.athrow, 0), (.ishl, 1), (.ior, 1), (.istore_n 3, 1), (.iinc 4 1, 3)], [(.athrow, 0), (.athrow, 0), (.goto (-45), 3), (.athrow, 0), (.athrow, 0), (.aload_n 0, 1), (.invokevirtual 420, 3), (.athrow, 0)], [(.athrow, 0), (.iload_n 3, 1), (.ireturn, 1)]]
def xt217 : xTb := [[(.aload_n 0, 1), (.getfield 23, 3), (.athrow, 0), (.athrow, 0), (.istore 4, 2), (.athrow, 0), (.iconst 0, 1), (.istore 5, 2)], [(.athrow, 0), (.iconst (-1), 1), (.istore 6, 2), (.athrow, 0), (.aload_n 0, 1), (.bipush 99, 2), (.athrow, 0), (.putfield 23, 3)], [(.athrow, 0), (.athrow, 0), (.aload_n 0, 1), (.getfield 23, 3), (.athrow, 0), (.athrow, 0), (.ifCond .le 118, 3), (.athrow, 0)], [(.athrow, 0), (.iconst 1, 1), (.istore 7, 2), (.athrow, 0), (.iconst 0, 1), (.istore 8, 2), (.athrow, 0), (.iload 8, 2)], [(.athrow, 0), (.aload_n 0, 1), (.getfield 88, 3), (.athrow, 0), (.athrow, 0), (.if_icmp .ge 59, 3), (.athrow, 0), (.athrow, 0)], [(.iload 7, 2), (.athrow, 0), (.ifCond .eq 45, 3), (.athrow, 0), (.athrow, 0), (.iload 8, 2), (.athrow, 0), (.iload_n 2, 1)], [(.if_icmp .eq 35, 3), (.athrow, 0), (.athrow, 0), (.aload_n 0, 1), (.iload_n 2, 1), (.iload 8, 2), (.athrow, 0), (.invokevirtual 155, 3)], [(.athrow, 0), (.athrow, 0), (.aload_n 0, 1), (.getfield 78, 3), (.athrow, 0), (.athrow, 0), (.bipush 40, 2), (.athrow, 0)], [(.iload_n 1, 1), (.imul, 1), (.iload 8, 2), (.athrow, 0), (.iadd, 1), (.iaload, 1), (.bipush 20, 2), (.athrow, 0)], [(.if_icmp .lt 7, 3), (.athrow, 0), (.athrow, 0), (.iconst 1, 1), (.goto 4, 3), (.athrow, 0), (.athrow, 0), (.iconst 0, 1)], [(.if_icmp .ne 7, 3), (.athrow, 0), (.athrow, 0), (.iconst 1, 1), (.goto 4, 3), (.athrow, 0), (.athrow, 0), (.iconst 0, 1)], [(.istore 7, 2), (.athrow, 0), (.iinc 8 1, 3), (.athrow, 0), (.athrow, 0), (.goto (-62), 3), (.athrow, 0), (.athrow, 0)], [(.iload 5, 2), (.athrow, 0), (.iload 7, 2), (.athrow, 0), (.ifCond .eq 7, 3), (.athrow, 0), (.athrow, 0), (.iconst 1, 1)], [(.goto 4, 3), (.athrow, 0), (.athrow, 0), (.iconst 0, 1), (.iadd, 1), (.istore 5, 2), (.athrow, 0), (.iload 7, 2)], [(.athrow, 0), (.ifCond .eq 10, 3), (.athrow, 0), (.athrow, 0), (.aload_n 0, 1), (.getfield 23, 3), (.athrow, 0), (.athrow, 0)], [(.goto 5, 3), (.athrow, 0), (.athrow, 0), (.iload 6, 2), (.athrow, 0), (.istore 6, 2), (.athrow, 0), (.aload_n 0, 1)], [(.dup, 1), (.getfield 23, 3), (.athrow, 0), (.athrow, 0), (.iconst 1, 1), (.isub, 1), (.putfield 23, 3), (.athrow, 0)], [(.athrow, 0), (.goto (-119), 3), (.athrow, 0), (.athrow, 0), (.aload_n 0, 1), (.iload 4, 2), (.athrow, 0), (.putfield 23, 3)], [(.athrow, 0), (.athrow, 0), (.iload_n 3, 1), (.ifCond .eq 8, 3), (.athrow, 0), (.athrow, 0), (.iload 5, 2), (.athrow, 0)], [(.goto 5, 3), (.athrow, 0), (.athrow, 0), (.iload 6, 2), (.athrow, 0), (.ireturn, 1)]]
def xt218 : xTb := [[(.iload_n 1, 1), (.invokestatic 436, 3), (.athrow, 0), (.athrow, 0), (.ifCond .eq 23, 3), (.athrow, 0), (.athrow, 0), (.aload_n 0, 1)], [(.iload_n 2, 1), (.invokevirtual 105, 3), (.athrow, 0), (.athrow, 0), (.ifCond .eq 15, 3), (.athrow, 0), (.athrow, 0), (.iload_n 3, 1)], [(.i2l, 1), (.lconst 0, 1), (.ldc2_w 439, 3), (.athrow, 0), (.athrow, 0), (.invokestatic 91, 3), (.athrow, 0), (.athrow, 0)], [(.ifCond .ne 6, 3), (.athrow, 0), (.athrow, 0), (.bipush (-2), 2), (.athrow, 0), (.ireturn, 1), (.aload_n 0, 1), (.getfield 68, 3)], [(.athrow, 0), (.athrow, 0), (.iload_n 1, 1), (.baload, 1), (.ifCond .ne 6, 3), (.athrow, 0), (.athrow, 0), (.bipush (-11), 2)], [(.athrow, 0), (.ireturn, 1), (.aload_n 0, 1), (.getfield 75, 3), (.athrow, 0), (.athrow, 0), (.iload_n 1, 1), (.iaload, 1)], [(.aload_n 0, 1), (.getfield 88, 3), (.athrow, 0), (.athrow, 0), (.if_icmp .eq 6, 3), (.athrow, 0), (.athrow, 0), (.bipush (-2), 2)], [(.athrow, 0), (.ireturn, 1), (.iload_n 3, 1), (.ifCond .ne 10, 3), (.athrow, 0), (.athrow, 0), (.aload_n 0, 1), (.iload_n 1, 1)], [(.iload_n 2, 1), (.invokevirtual 441, 3), (.athrow, 0), (.athrow, 0), (.ireturn, 1), (.iload_n 3, 1), (.iconst 4, 1), (.if_icmp .le 20, 3)], [(.athrow, 0), (.athrow, 0), (.aload_n 0, 1), (.iload_n 1, 1), (.iload_n 2, 1), (.iload_n 3, 1), (.iconst 5, 1), (.if_icmp .ne 7, 3)], [(.athrow, 0), (.athrow, 0), (.iconst 1, 1), (.goto 4, 3), (.athrow, 0), (.athrow, 0), (.iconst 0, 1), (.invokevirtual 444, 3)], [(.athrow, 0), (.athrow, 0), (.ireturn, 1), (.iload_n 3, 1), (.iconst 1, 1), (.if_icmp .ne 7, 3), (.athrow, 0), (.athrow, 0)], [(.iconst 4, 1), (.goto 13, 3), (.athrow, 0), (.athrow, 0), (.iload_n 3, 1), (.iconst 4, 1), (.if_icmp .ne 7, 3), (.athrow, 0)], [(.athrow, 0), (.iconst 5, 1), (.goto 4, 3), (.athrow, 0), (.athrow, 0), (.iload_n 3, 1), (.istore 4, 2), (.athrow, 0)], [(.iload 4, 2), (.athrow, 0), (.iconst 5, 1), (.if_icmp .ne 10, 3), (.athrow, 0), (.athrow, 0), (.aload_n 0, 1), (.getfield 124, 3)], [(.athrow, 0), (.athrow, 0), (.goto 10, 3), (.athrow, 0), (.athrow, 0), (.aload_n 0, 1), (.iload_n 2, 1), (.iload 4, 2)], [(.athrow, 0), (.invokevirtual 113, 3), (.athrow, 0), (.athrow, 0), (.istore 5, 2), (.athrow, 0), (.iload_n 3, 1), (.iconst 1, 1)], [(.if_icmp .ne 8, 3), (.athrow, 0), (.athrow, 0), (.bipush 6, 2), (.athrow, 0), (.goto 26, 3), (.athrow, 0), (.athrow, 0)], [(.iload_n 3, 1), (.iconst 2, 1), (.if_icmp .ne 8, 3), (.athrow, 0), (.athrow, 0), (.bipush 10, 2), (.athrow, 0), (.goto 16, 3)], [(.athrow, 0), (.athrow, 0), (.iload_n 3, 1), (.iconst 3, 1), (.if_icmp .ne 7, 3), (.athrow, 0), (.athrow, 0), (.iconst 4, 1)], [(.goto 7, 3), (.athrow, 0), (.athrow, 0), (.aload_n 0, 1), (.getfield 85, 3), (.athrow, 0), (.athrow, 0), (.istore 6, 2)], [(.athrow, 0), (.iconst 0, 1), (.istore 7, 2), (.athrow, 0), (.iconst 0, 1), (.istore 8, 2), (.athrow, 0), (.iload 8, 2)], [(.athrow, 0), (.iload 6, 2), (.athrow, 0), (.if_icmp .ge 40, 3), (.athrow, 0), (.athrow, 0), (.aload_n 0, 1), (.iload 4, 2)], [(.athrow, 0), (.iload_n 2, 1), (.iload 8, 2), (.athrow, 0), (.invokevirtual 117, 3), (.athrow, 0), (.athrow, 0), (.iload 7, 2)], [(.athrow, 0), (.aload_n 0, 1), (.iload_n 1, 1), (.iload_n 2, 1), (.invokevirtual 441, 3), (.athrow, 0), (.athrow, 0), (.ifCond .ne 7, 3)], [(.athrow, 0), (.athrow, 0), (.iconst 1, 1), (.goto 4, 3), (.athrow, 0), (.athrow, 0), (.iconst 0, 1), (.iload 8, 2)], [(.athrow, 0), (.ishl, 1), (.ior, 1), (.istore 7, 2), (.athrow, 0), (.iinc 8 1, 3), (.athrow, 0), (.athrow, 0)], [(.goto (-41), 3), (.athrow, 0), (.athrow, 0), (.aload_n 0, 1), (.iload 4, 2), (.athrow, 0), (.iload_n 2, 1), (.iload 5, 2)], [(.athrow, 0), (.invokevirtual 117, 3), (.athrow, 0), (.athrow, 0), (.iload 7, 2), (.athrow, 0), (.ireturn, 1)]]
def xt219 : xTb := [[(.iload_n 1, 1), (.invokestatic 436, 3), (.athrow, 0), (.athrow, 0), (.ifCond .eq 11, 3), (.athrow, 0), (.athrow, 0), (.aload_n 0, 1)], [(.iload_n 2, 1), (.invokevirtual 105, 3), (.athrow, 0), (.athrow, 0), (.ifCond .ne 6, 3), (.athrow, 0), (.athrow, 0), (.bipush (-2), 2)], [(.athrow, 0), (.ireturn, 1), (.aload_n 0, 1), (.iload_n 1, 1), (.iconst 0, 1), (.aload_n 0, 1), (.getfield 88, 3), (.athrow, 0)], [(.athrow, 0), (.invokevirtual 448, 3), (.athrow, 0), (.athrow, 0), (.pop, 1), (.aload_n 0, 1), (.invokevirtual 413, 3), (.athrow, 0)], [(.athrow, 0), (.aload_n 0, 1), (.invokevirtual 376, 3), (.athrow, 0), (.athrow, 0), (.iconst 0, 1), (.istore_n 3, 1), (.iload_n 3, 1)], [(.aload_n 0, 1), (.getfield 88, 3), (.athrow, 0), (.athrow, 0), (.if_icmp .ge 26, 3), (.athrow, 0), (.athrow, 0), (.aload_n 0, 1)], [(.getfield 78, 3), (.athrow, 0), (.athrow, 0), (.bipush 40, 2), (.athrow, 0), (.iload_n 1, 1), (.imul, 1), (.iload_n 3, 1)], [(.iadd, 1), (.aload_n 0, 1), (.iload_n 2, 1), (.iload_n 3, 1), (.invokevirtual 139, 3), (.athrow, 0), (.athrow, 0), (.iastore, 1)], [(.iinc 3 1, 3), (.athrow, 0), (.athrow, 0), (.goto (-28), 3), (.athrow, 0), (.athrow, 0), (.aload_n 0, 1), (.invokevirtual 420, 3)], [(.athrow, 0), (.athrow, 0), (.aload_n 0, 1), (.getfield 88, 3), (.athrow, 0), (.athrow, 0), (.ireturn, 1)]]
def xt220 : xTb := [[(.aload_n 0, 1), (.invokevirtual 430, 3), (.athrow, 0), (.athrow, 0), (.iload_n 1, 1), (.istore_n 3, 1), (.iconst 0, 1), (.istore 4, 2)], [(.athrow, 0), (.iload 4, 2), (.athrow, 0), (.aload_n 0, 1), (.getfield 88, 3), (.athrow, 0), (.athrow, 0), (.if_icmp .ge 32, 3)], [(.athrow, 0), (.athrow, 0), (.iload_n 3, 1), (.ldc_w 451, 3), (.athrow, 0), (.athrow, 0), (.imul, 1), (.sipush 12345, 3)], [(.athrow, 0), (.athrow, 0), (.iadd, 1), (.istore_n 3, 1), (.aload_n 0, 1), (.getfield 32, 3), (.athrow, 0), (.athrow, 0)], [(.iload 4, 2), (.athrow, 0), (.iload_n 3, 1), (.bipush 9, 2), (.athrow, 0), (.iushr, 1), (.iconst 4, 1), (.irem, 1)], [(.iastore, 1), (.iinc 4 1, 3), (.athrow, 0), (.athrow, 0), (.goto (-35), 3), (.athrow, 0), (.athrow, 0), (.aload_n 0, 1)], [(.iload_n 2, 1), (.invokevirtual 425, 3), (.athrow, 0), (.athrow, 0), (.istore 4, 2), (.athrow, 0), (.aload_n 0, 1), (.invokevirtual 433, 3)], [(.athrow, 0), (.athrow, 0), (.iload 4, 2), (.athrow, 0), (.ireturn, 1)]]
def xt221 : xTb := [[(.iload_n 2, 1), (.i2l, 1), (.lconst 0, 1), (.ldc2_w 409, 3), (.athrow, 0), (.athrow, 0), (.invokestatic 91, 3), (.athrow, 0)], [(.athrow, 0), (.ifCond .eq 12, 3), (.athrow, 0), (.athrow, 0), (.aload_n 0, 1), (.iload_n 1, 1), (.iload_n 2, 1), (.invokevirtual 452, 3)], [(.athrow, 0), (.athrow, 0), (.goto 5, 3), (.athrow, 0), (.athrow, 0), (.bipush (-2), 2), (.athrow, 0), (.ireturn, 1)]]
def xt222 : xTb := [[(.iload_n 2, 1), (.i2l, 1), (.lconst 1, 1), (.ldc2_w 409, 3), (.athrow, 0), (.athrow, 0), (.invokestatic 91, 3), (.athrow, 0)], [(.athrow, 0), (.ifCond .eq 26, 3), (.athrow, 0), (.athrow, 0), (.iload_n 3, 1), (.i2l, 1), (.lconst 0, 1), (.ldc2_w 423, 3)], [(.athrow, 0), (.athrow, 0), (.invokestatic 91, 3), (.athrow, 0), (.athrow, 0), (.ifCond .eq 14, 3), (.athrow, 0), (.athrow, 0)], [(.iload 4, 2), (.athrow, 0), (.i2l, 1), (.lconst 0, 1), (.lconst 1, 1), (.invokestatic 91, 3), (.athrow, 0), (.athrow, 0)], [(.ifCond .ne 7, 3), (.athrow, 0), (.athrow, 0), (.ldc2_w 455, 3), (.athrow, 0), (.athrow, 0), (.lreturn, 1), (.lconst 0, 1)], [(.lstore 5, 2), (.athrow, 0), (.iconst 0, 1), (.istore 7, 2), (.athrow, 0), (.iload 7, 2), (.athrow, 0), (.iload_n 2, 1)], [(.if_icmp .ge 32, 3), (.athrow, 0), (.athrow, 0), (.lload 5, 2), (.athrow, 0), (.aload_n 0, 1), (.iload_n 1, 1), (.iload 7, 2)], [(.athrow, 0), (.iadd, 1), (.iconst 3, 1), (.invokevirtual 452, 3), (.athrow, 0), (.athrow, 0), (.iload_n 3, 1), (.if_icmp .lt 7, 3)], [(.athrow, 0), (.athrow, 0), (.lconst 1, 1), (.goto 4, 3), (.athrow, 0), (.athrow, 0), (.lconst 0, 1), (.ladd, 1)], [(.lstore 5, 2), (.athrow, 0), (.iinc 7 1, 3), (.athrow, 0), (.athrow, 0), (.goto (-32), 3), (.athrow, 0), (.athrow, 0)], [(.lload 5, 2), (.athrow, 0), (.lstore 7, 2), (.athrow, 0), (.iload_n 2, 1), (.i2l, 1), (.lstore 9, 2), (.athrow, 0)], [(.lload 9, 2), (.athrow, 0), (.lconst 0, 1), (.lcmp, 1), (.ifCond .eq 21, 3), (.athrow, 0), (.athrow, 0), (.lload 7, 2)], [(.athrow, 0), (.lload 9, 2), (.athrow, 0), (.lrem, 1), (.lstore 11, 2), (.athrow, 0), (.lload 9, 2), (.athrow, 0)], [(.lstore 7, 2), (.athrow, 0), (.lload 11, 2), (.athrow, 0), (.lstore 9, 2), (.athrow, 0), (.goto (-22), 3), (.athrow, 0)], [(.athrow, 0), (.iload 4, 2), (.athrow, 0), (.ifCond .ne 11, 3), (.athrow, 0), (.athrow, 0), (.lload 5, 2), (.athrow, 0)], [(.lload 7, 2), (.athrow, 0), (.ldiv, 1), (.goto 8, 3), (.athrow, 0), (.athrow, 0), (.iload_n 2, 1), (.i2l, 1)], [(.lload 7, 2), (.athrow, 0), (.ldiv, 1), (.lreturn, 1)]]
def xt223 : xTb := [[(.iconst 0, 1), (.istore_n 1, 1), (.iload_n 1, 1), (.bipush 8, 2), (.athrow, 0), (.if_icmp .ge 33, 3), (.athrow, 0), (.athrow, 0)], [(.aload_n 0, 1), (.getfield 56, 3), (.athrow, 0), (.athrow, 0), (.iload_n 1, 1), (.aload_n 0, 1), (.getfield 29, 3), (.athrow, 0)], [(.athrow, 0), (.iload_n 1, 1), (.iaload, 1), (.iastore, 1), (.aload_n 0, 1), (.getfield 59, 3), (.athrow, 0), (.athrow, 0)], [(.iload_n 1, 1), (.aload_n 0, 1), (.getfield 32, 3), (.athrow, 0), (.athrow, 0), (.iload_n 1, 1), (.iaload, 1), (.iastore, 1)], [(.iinc 1 1, 3), (.athrow, 0), (.athrow, 0), (.goto (-33), 3), (.athrow, 0), (.athrow, 0), (.iconst 0, 1), (.istore_n 1, 1)], [(.iload_n 1, 1), (.bipush 64, 2), (.athrow, 0), (.if_icmp .ge 21, 3), (.athrow, 0), (.athrow, 0), (.aload_n 0, 1), (.getfield 62, 3)], [(.athrow, 0), (.athrow, 0), (.iload_n 1, 1), (.aload_n 0, 1), (.getfield 35, 3), (.athrow, 0), (.athrow, 0), (.iload_n 1, 1)], [(.iaload, 1), (.iastore, 1), (.iinc 1 1, 3), (.athrow, 0), (.athrow, 0), (.goto (-21), 3), (.athrow, 0), (.athrow, 0)], [(.aload_n 0, 1), (.aload_n 0, 1), (.getfield 88, 3), (.athrow, 0), (.athrow, 0), (.putfield 65, 3), (.athrow, 0), (.athrow, 0)], [(.aload_n 0, 1), (.aload_n 0, 1), (.getfield 121, 3), (.athrow, 0), (.athrow, 0), (.putfield 457, 3), (.athrow, 0), (.athrow, 0)], [(.aload_n 0, 1), (.aload_n 0, 1), (.getfield 23, 3), (.athrow, 0), (.athrow, 0), (.putfield 460, 3), (.athrow, 0), (.athrow, 0)], [(.aload_n 0, 1), (.aload_n 0, 1), (.getfield 124, 3), (.athrow, 0), (.athrow, 0), (.putfield 463, 3), (.athrow, 0), (.athrow, 0)], [(.aload_n 0, 1), (.getfield 88, 3), (.athrow, 0), (.athrow, 0), (.ireturn, 1)]]
def xt224 : xTb := [[(.aload_n 0, 1), (.getfield 65, 3), (.athrow, 0), (.athrow, 0), (.iconst (-1), 1), (.if_icmp .ne 6, 3), (.athrow, 0), (.athrow, 0)], [(.bipush (-3), 2), (.athrow, 0), (.ireturn, 1), (.iconst 0, 1), (.istore_n 1, 1), (.iload_n 1, 1), (.bipush 8, 2), (.athrow, 0)], [(.if_icmp .ge 33, 3), (.athrow, 0), (.athrow, 0), (.aload_n 0, 1), (.getfield 29, 3), (.athrow, 0), (.athrow, 0), (.iload_n 1, 1)], [(.aload_n 0, 1), (.getfield 56, 3), (.athrow, 0), (.athrow, 0), (.iload_n 1, 1), (.iaload, 1), (.iastore, 1), (.aload_n 0, 1)], [(.getfield 32, 3), (.athrow, 0), (.athrow, 0), (.iload_n 1, 1), (.aload_n 0, 1), (.getfield 59, 3), (.athrow, 0), (.athrow, 0)], [(.iload_n 1, 1), (.iaload, 1), (.iastore, 1), (.iinc 1 1, 3), (.athrow, 0), (.athrow, 0), (.goto (-33), 3), (.athrow, 0)], [(.athrow, 0), (.iconst 0, 1), (.istore_n 1, 1), (.iload_n 1, 1), (.bipush 64, 2), (.athrow, 0), (.if_icmp .ge 21, 3), (.athrow, 0)], [(.athrow, 0), (.aload_n 0, 1), (.getfield 35, 3), (.athrow, 0), (.athrow, 0), (.iload_n 1, 1), (.aload_n 0, 1), (.getfield 62, 3)], [(.athrow, 0), (.athrow, 0), (.iload_n 1, 1), (.iaload, 1), (.iastore, 1), (.iinc 1 1, 3), (.athrow, 0), (.athrow, 0)], [(.goto (-21), 3), (.athrow, 0), (.athrow, 0), (.aload_n 0, 1), (.aload_n 0, 1), (.getfield 65, 3), (.athrow, 0), (.athrow, 0)], [(.putfield 88, 3), (.athrow, 0), (.athrow, 0), (.aload_n 0, 1), (.aload_n 0, 1), (.getfield 457, 3), (.athrow, 0), (.athrow, 0)], [(.putfield 121, 3), (.athrow, 0), (.athrow, 0), (.aload_n 0, 1), (.aload_n 0, 1), (.getfield 460, 3), (.athrow, 0), (.athrow, 0)], [(.putfield 23, 3), (.athrow, 0), (.athrow, 0), (.aload_n 0, 1), (.aload_n 0, 1), (.getfield 463, 3), (.athrow, 0), (.athrow, 0)], [(.putfield 124, 3), (.athrow, 0), (.athrow, 0), (.aload_n 0, 1), (.getfield 88, 3), (.athrow, 0), (.athrow, 0), (.ireturn, 1)]]
def xt225 : xTb := [[(.iload_n 1, 1), (.i2l, 1), (.lconst 0, 1), (.ldc2_w 131, 3), (.athrow, 0), (.athrow, 0), (.invokestatic 91, 3), (.athrow, 0)], [(.athrow, 0), (.ifCond .ne 6, 3), (.athrow, 0), (.athrow, 0), (.bipush (-2), 2), (.athrow, 0), (.ireturn, 1), (.iload_n 1, 1)], [(.iconst 1, 1), (.if_icmp .le 44, 3), (.athrow, 0), (.athrow, 0), (.iload_n 1, 1), (.iconst 2, 1), (.if_icmp .ne 10, 3), (.athrow, 0)], [(.athrow, 0), (.aload_n 0, 1), (.getfield 121, 3), (.athrow, 0), (.athrow, 0), (.goto 31, 3), (.athrow, 0), (.athrow, 0)], [(.iload_n 1, 1), (.iconst 3, 1), (.if_icmp .ne 10, 3), (.athrow, 0), (.athrow, 0), (.aload_n 0, 1), (.getfield 85, 3), (.athrow, 0)], [(.athrow, 0), (.goto 19, 3), (.athrow, 0), (.athrow, 0), (.iload_n 1, 1), (.iconst 4, 1), (.if_icmp .ne 10, 3), (.athrow, 0)], [(.athrow, 0), (.aload_n 0, 1), (.getfield 160, 3), (.athrow, 0), (.athrow, 0), (.goto 7, 3), (.athrow, 0), (.athrow, 0)], [(.aload_n 0, 1), (.getfield 124, 3), (.athrow, 0), (.athrow, 0), (.ireturn, 1), (.iconst 0, 1), (.istore_n 2, 1), (.iconst 0, 1)], [(.istore_n 3, 1), (.iload_n 3, 1), (.aload_n 0, 1), (.getfield 88, 3), (.athrow, 0), (.athrow, 0), (.if_icmp .ge 31, 3), (.athrow, 0)], [(.athrow, 0), (.iload_n 2, 1), (.iload_n 1, 1), (.ifCond .eq 13, 3), (.athrow, 0), (.athrow, 0), (.aload_n 0, 1), (.getfield 32, 3)], [(.athrow, 0), (.athrow, 0), (.iload_n 3, 1), (.iaload, 1), (.iconst (-1), 1), (.if_icmp .eq 7, 3), (.athrow, 0), (.athrow, 0)], [(.iconst 1, 1), (.goto 4, 3), (.athrow, 0), (.athrow, 0), (.iconst 0, 1), (.iadd, 1), (.istore_n 2, 1), (.iinc 3 1, 3)], [(.athrow, 0), (.athrow, 0), (.goto (-33), 3), (.athrow, 0), (.athrow, 0), (.iload_n 2, 1), (.ireturn, 1)]]
def xt226 : xTb := [[(.iload_n 0, 1), (.i2l, 1), (.lconst 0, 1), (.ldc2_w 97, 3), (.athrow, 0), (.athrow, 0), (.invokestatic 91, 3), (.athrow, 0)], [(.athrow, 0), (.ireturn, 1)]]
def xt227 : xTb := [[(.iload_n 1, 1), (.invokestatic 436, 3), (.athrow, 0), (.athrow, 0), (.ifCond .eq 27, 3), (.athrow, 0), (.athrow, 0), (.iload_n 2, 1)], [(.i2l, 1), (.ldc2_w 95, 3), (.athrow, 0), (.athrow, 0), (.ldc2_w 428, 3), (.athrow, 0), (.athrow, 0), (.invokestatic 91, 3)], [(.athrow, 0), (.athrow, 0), (.ifCond .eq 13, 3), (.athrow, 0), (.athrow, 0), (.iload_n 2, 1), (.ifCond .lt 12, 3), (.athrow, 0)], [(.athrow, 0), (.iload_n 3, 1), (.bipush 40, 2), (.athrow, 0), (.if_icmp .le 6, 3), (.athrow, 0), (.athrow, 0), (.bipush (-2), 2)], [(.athrow, 0), (.ireturn, 1), (.iload_n 2, 1), (.ifCond .lt 10, 3), (.athrow, 0), (.athrow, 0), (.iload_n 3, 1), (.ifCond .ge 6, 3)], [(.athrow, 0), (.athrow, 0), (.bipush (-14), 2), (.athrow, 0), (.ireturn, 1), (.aload_n 0, 1), (.getfield 68, 3), (.athrow, 0)], [(.athrow, 0), (.iload_n 1, 1), (.iload_n 2, 1), (.ifCond .lt 7, 3), (.athrow, 0), (.athrow, 0), (.iconst 1, 1), (.goto 4, 3)], [(.athrow, 0), (.athrow, 0), (.iconst 0, 1), (.bastore, 1), (.aload_n 0, 1), (.getfield 72, 3), (.athrow, 0), (.athrow, 0)], [(.iload_n 1, 1), (.iload_n 2, 1), (.iastore, 1), (.aload_n 0, 1), (.getfield 75, 3), (.athrow, 0), (.athrow, 0), (.iload_n 1, 1)], [(.iload_n 3, 1), (.iastore, 1), (.iconst 0, 1), (.istore 4, 2), (.athrow, 0), (.iload 4, 2), (.athrow, 0), (.iload_n 3, 1)], [(.if_icmp .ge 26, 3), (.athrow, 0), (.athrow, 0), (.iload_n 2, 1), (.ifCond .lt 22, 3), (.athrow, 0), (.athrow, 0), (.aload_n 0, 1)], [(.getfield 78, 3), (.athrow, 0), (.athrow, 0), (.bipush 40, 2), (.athrow, 0), (.iload_n 1, 1), (.imul, 1), (.iload 4, 2)], [(.athrow, 0), (.iadd, 1), (.iconst 0, 1), (.iastore, 1), (.iinc 4 1, 3), (.athrow, 0), (.athrow, 0), (.goto (-26), 3)], [(.athrow, 0), (.athrow, 0), (.iconst 1, 1), (.ireturn, 1)]]
def xt228 : xTb := [[(.iload_n 1, 1), (.invokestatic 436, 3), (.athrow, 0), (.athrow, 0), (.ifCond .ne 6, 3), (.athrow, 0), (.athrow, 0), (.bipush (-2), 2)], [(.athrow, 0), (.ireturn, 1), (.aload_n 0, 1), (.getfield 68, 3), (.athrow, 0), (.athrow, 0), (.iload_n 1, 1), (.baload, 1)], [(.ifCond .ne 6, 3), (.athrow, 0), (.athrow, 0), (.bipush (-11), 2), (.athrow, 0), (.ireturn, 1), (.iload_n 2, 1), (.i2l, 1)], [(.lconst 0, 1), (.aload_n 0, 1), (.getfield 75, 3), (.athrow, 0), (.athrow, 0), (.iload_n 1, 1), (.iaload, 1), (.iconst 1, 1)], [(.isub, 1), (.i2l, 1), (.invokestatic 91, 3), (.athrow, 0), (.athrow, 0), (.ifCond .ne 6, 3), (.athrow, 0), (.athrow, 0)], [(.bipush (-12), 2), (.athrow, 0), (.ireturn, 1), (.aload_n 0, 1), (.getfield 78, 3), (.athrow, 0), (.athrow, 0), (.bipush 40, 2)], [(.athrow, 0), (.iload_n 1, 1), (.imul, 1), (.iload_n 2, 1), (.iadd, 1), (.aload_n 0, 1), (.getfield 72, 3), (.athrow, 0)], [(.athrow, 0), (.iload_n 1, 1), (.iaload, 1), (.ifCond .ne 8, 3), (.athrow, 0), (.athrow, 0), (.iload_n 3, 1), (.i2b, 1)], [(.goto 19, 3), (.athrow, 0), (.athrow, 0), (.aload_n 0, 1), (.getfield 72, 3), (.athrow, 0), (.athrow, 0), (.iload_n 1, 1)], [(.iaload, 1), (.iconst 1, 1), (.if_icmp .ne 8, 3), (.athrow, 0), (.athrow, 0), (.iload_n 3, 1), (.i2s, 1), (.goto 4, 3)], [(.athrow, 0), (.athrow, 0), (.iload_n 3, 1), (.iastore, 1), (.iconst 1, 1), (.ireturn, 1)]]
def xt229 : xTb := [[(.iload_n 1, 1), (.invokestatic 436, 3), (.athrow, 0), (.athrow, 0), (.ifCond .eq 10, 3), (.athrow, 0), (.athrow, 0), (.iload_n 3, 1)], [(.invokestatic 436, 3), (.athrow, 0), (.athrow, 0), (.ifCond .ne 6, 3), (.athrow, 0), (.athrow, 0), (.bipush (-2), 2), (.athrow, 0)], [(.ireturn, 1), (.aload_n 0, 1), (.getfield 68, 3), (.athrow, 0), (.athrow, 0), (.iload_n 1, 1), (.baload, 1), (.ifCond .eq 12, 3)], [(.athrow, 0), (.athrow, 0), (.aload_n 0, 1), (.getfield 68, 3), (.athrow, 0), (.athrow, 0), (.iload_n 3, 1), (.baload, 1)], [(.ifCond .ne 6, 3), (.athrow, 0), (.athrow, 0), (.bipush (-11), 2), (.athrow, 0), (.ireturn, 1), (.aload_n 0, 1), (.getfield 72, 3)], [(.athrow, 0), (.athrow, 0), (.iload_n 1, 1), (.iaload, 1), (.aload_n 0, 1), (.getfield 72, 3), (.athrow, 0), (.athrow, 0)], [(.iload_n 3, 1), (.iaload, 1), (.if_icmp .eq 6, 3), (.athrow, 0), (.athrow, 0), (.bipush (-13), 2), (.athrow, 0), (.ireturn, 1)], [(.iload 5, 2), (.athrow, 0), (.ifCond .lt 39, 3), (.athrow, 0), (.athrow, 0), (.iload_n 2, 1), (.ifCond .lt 35, 3), (.athrow, 0)], [(.athrow, 0), (.iload 4, 2), (.athrow, 0), (.ifCond .lt 30, 3), (.athrow, 0), (.athrow, 0), (.iload_n 2, 1), (.aload_n 0, 1)], [(.getfield 75, 3), (.athrow, 0), (.athrow, 0), (.iload_n 1, 1), (.iaload, 1), (.iload 5, 2), (.athrow, 0), (.isub, 1)], [(.if_icmp .gt 17, 3), (.athrow, 0), (.athrow, 0), (.iload 4, 2), (.athrow, 0), (.aload_n 0, 1), (.getfield 75, 3), (.athrow, 0)], [(.athrow, 0), (.iload_n 3, 1), (.iaload, 1), (.iload 5, 2), (.athrow, 0), (.isub, 1), (.if_icmp .le 6, 3), (.athrow, 0)], [(.athrow, 0), (.bipush (-12), 2), (.athrow, 0), (.ireturn, 1), (.iload_n 1, 1), (.iload_n 3, 1), (.if_icmp .ne 13, 3), (.athrow, 0)], [(.athrow, 0), (.iload_n 2, 1), (.iload 4, 2), (.athrow, 0), (.if_icmp .ge 7, 3), (.athrow, 0), (.athrow, 0), (.iconst 1, 1)], [(.goto 4, 3), (.athrow, 0), (.athrow, 0), (.iconst 0, 1), (.istore 6, 2), (.athrow, 0), (.iconst 0, 1), (.istore 7, 2)], [(.athrow, 0), (.iload 7, 2), (.athrow, 0), (.iload 5, 2), (.athrow, 0), (.if_icmp .ge 57, 3), (.athrow, 0), (.athrow, 0)], [(.iload 6, 2), (.athrow, 0), (.ifCond .eq 13, 3), (.athrow, 0), (.athrow, 0), (.iload 5, 2), (.athrow, 0), (.iconst 1, 1)], [(.isub, 1), (.iload 7, 2), (.athrow, 0), (.isub, 1), (.goto 5, 3), (.athrow, 0), (.athrow, 0), (.iload 7, 2)], [(.athrow, 0), (.istore 8, 2), (.athrow, 0), (.aload_n 0, 1), (.getfield 78, 3), (.athrow, 0), (.athrow, 0), (.bipush 40, 2)], [(.athrow, 0), (.iload_n 3, 1), (.imul, 1), (.iload 4, 2), (.athrow, 0), (.iadd, 1), (.iload 8, 2), (.athrow, 0)], [(.iadd, 1), (.aload_n 0, 1), (.getfield 78, 3), (.athrow, 0), (.athrow, 0), (.bipush 40, 2), (.athrow, 0), (.iload_n 1, 1)], [(.imul, 1), (.iload_n 2, 1), (.iadd, 1), (.iload 8, 2), (.athrow, 0), (.iadd, 1), (.iaload, 1), (.iastore, 1)], [(.iinc 7 1, 3), (.athrow, 0), (.athrow, 0), (.goto (-58), 3), (.athrow, 0), (.athrow, 0), (.iload 5, 2), (.athrow, 0)], [(.ireturn, 1)]]
def xt230 : xTb := [[(.iload_n 1, 1), (.invokestatic 436, 3), (.athrow, 0), (.athrow, 0), (.ifCond .eq 28, 3), (.athrow, 0), (.athrow, 0), (.iload_n 2, 1)], [(.i2l, 1), (.lconst 0, 1), (.ldc2_w 428, 3), (.athrow, 0), (.athrow, 0), (.invokestatic 91, 3), (.athrow, 0), (.athrow, 0)], [(.ifCond .eq 16, 3), (.athrow, 0), (.athrow, 0), (.iload 4, 2), (.athrow, 0), (.i2l, 1), (.lconst 0, 1), (.ldc2_w 466, 3)], [(.athrow, 0), (.athrow, 0), (.invokestatic 91, 3), (.athrow, 0), (.athrow, 0), (.ifCond .ne 6, 3), (.athrow, 0), (.athrow, 0)], [(.bipush (-2), 2), (.athrow, 0), (.ireturn, 1), (.aload_n 0, 1), (.getfield 68, 3), (.athrow, 0), (.athrow, 0), (.iload_n 1, 1)], [(.baload, 1), (.ifCond .eq 16, 3), (.athrow, 0), (.athrow, 0), (.aload_n 0, 1), (.getfield 72, 3), (.athrow, 0), (.athrow, 0)], [(.iload_n 1, 1), (.iaload, 1), (.iload_n 2, 1), (.if_icmp .eq 6, 3), (.athrow, 0), (.athrow, 0), (.bipush (-13), 2), (.athrow, 0)], [(.ireturn, 1), (.aload_n 0, 1), (.getfield 68, 3), (.athrow, 0), (.athrow, 0), (.iload_n 1, 1), (.baload, 1), (.ifCond .ne 6, 3)], [(.athrow, 0), (.athrow, 0), (.bipush (-11), 2), (.athrow, 0), (.ireturn, 1), (.iconst 0, 1), (.istore 5, 2), (.athrow, 0)], [(.iconst 0, 1), (.istore 6, 2), (.athrow, 0), (.iload 6, 2), (.athrow, 0), (.iload 4, 2), (.athrow, 0), (.if_icmp .ge 79, 3)], [(.athrow, 0), (.athrow, 0), (.iload_n 3, 1), (.ifCond .lt 20, 3), (.athrow, 0), (.athrow, 0), (.iload_n 3, 1), (.aload_n 0, 1)], [(.getfield 75, 3), (.athrow, 0), (.athrow, 0), (.iload_n 1, 1), (.iaload, 1), (.iconst 2, 1), (.iload 6, 2), (.athrow, 0)], [(.imul, 1), (.isub, 1), (.iconst 2, 1), (.isub, 1), (.if_icmp .le 6, 3), (.athrow, 0), (.athrow, 0), (.bipush (-12), 2)], [(.athrow, 0), (.ireturn, 1), (.bipush 40, 2), (.athrow, 0), (.iload_n 1, 1), (.imul, 1), (.iload_n 3, 1), (.iadd, 1)], [(.iconst 2, 1), (.iload 6, 2), (.athrow, 0), (.imul, 1), (.iadd, 1), (.istore 7, 2), (.athrow, 0), (.iload 5, 2)], [(.athrow, 0), (.aload_n 0, 1), (.aload_n 0, 1), (.getfield 78, 3), (.athrow, 0), (.athrow, 0), (.iload 7, 2), (.athrow, 0)], [(.iaload, 1), (.aload_n 0, 1), (.getfield 78, 3), (.athrow, 0), (.athrow, 0), (.iload 7, 2), (.athrow, 0), (.iconst 1, 1)], [(.iadd, 1), (.iaload, 1), (.invokevirtual 468, 3), (.athrow, 0), (.athrow, 0), (.ifCond .lt 7, 3), (.athrow, 0), (.athrow, 0)], [(.iconst 1, 1), (.goto 4, 3), (.athrow, 0), (.athrow, 0), (.iconst 0, 1), (.iadd, 1), (.istore 5, 2), (.athrow, 0)], [(.iinc 6 1, 3), (.athrow, 0), (.athrow, 0), (.goto (-80), 3), (.athrow, 0), (.athrow, 0), (.iload 5, 2), (.athrow, 0)], [(.ireturn, 1)]]
def xt231 : xTb := [[(.iload_n 0, 1), (.ifCond .ne 7, 3), (.athrow, 0), (.athrow, 0), (.iconst (-1), 1), (.goto 22, 3), (.athrow, 0), (.athrow, 0)], [(.iload_n 0, 1), (.iconst 3, 1), (.if_icmp .ne 7, 3), (.athrow, 0), (.athrow, 0), (.iconst 1, 1), (.goto 13, 3), (.athrow, 0)], [(.athrow, 0), (.iload_n 0, 1), (.iconst 4, 1), (.if_icmp .ne 7, 3), (.athrow, 0), (.athrow, 0), (.iconst 2, 1), (.goto 4, 3)], [(.athrow, 0), (.athrow, 0), (.iconst 0, 1), (.ireturn, 1)]]
def xt232 : xTb := [[(.iload_n 2, 1), (.i2l, 1), (.lconst 0, 1), (.ldc2_w 131, 3), (.athrow, 0), (.athrow, 0), (.invokestatic 91, 3), (.athrow, 0)], [(.athrow, 0), (.ifCond .ne 6, 3), (.athrow, 0), (.athrow, 0), (.bipush (-2), 2), (.athrow, 0), (.ireturn, 1), (.aload_n 0, 1)], [(.iload_n 1, 1), (.invokevirtual 105, 3), (.athrow, 0), (.athrow, 0), (.ifCond .ne 6, 3), (.athrow, 0), (.athrow, 0), (.bipush (-11), 2)], [(.athrow, 0), (.ireturn, 1), (.aload_n 0, 1), (.getfield 26, 3), (.athrow, 0), (.athrow, 0), (.iload_n 1, 1), (.iaload, 1)], [(.istore_n 3, 1), (.iload_n 3, 1), (.iconst (-1), 1), (.if_icmp .eq 16, 3), (.athrow, 0), (.athrow, 0), (.iload_n 3, 1), (.iload_n 2, 1)], [(.if_icmp .eq 11, 3), (.athrow, 0), (.athrow, 0), (.iload_n 3, 1), (.invokestatic 471, 3), (.athrow, 0), (.athrow, 0), (.istore_n 3, 1)], [(.goto (-15), 3), (.athrow, 0), (.athrow, 0), (.iload_n 3, 1), (.iload_n 2, 1), (.if_icmp .ne 12, 3), (.athrow, 0), (.athrow, 0)], [(.aload_n 0, 1), (.getfield 29, 3), (.athrow, 0), (.athrow, 0), (.iload_n 1, 1), (.iaload, 1), (.goto 5, 3), (.athrow, 0)], [(.athrow, 0), (.bipush (-13), 2), (.athrow, 0), (.ireturn, 1)]]
def xt233 : xTb := [[(.iload_n 0, 1), (.iload_n 0, 1), (.iconst 1, 1), (.iushr, 1), (.ldc_w 265, 3), (.athrow, 0), (.athrow, 0), (.iand, 1)], [(.isub, 1), (.istore_n 0, 1), (.iload_n 0, 1), (.ldc_w 266, 3), (.athrow, 0), (.athrow, 0), (.iand, 1), (.iload_n 0, 1)], [(.iconst 2, 1), (.iushr, 1), (.ldc_w 266, 3), (.athrow, 0), (.athrow, 0), (.iand, 1), (.iadd, 1), (.istore_n 0, 1)], [(.iload_n 0, 1), (.iload_n 0, 1), (.iconst 4, 1), (.iushr, 1), (.iadd, 1), (.ldc_w 267, 3), (.athrow, 0), (.athrow, 0)], [(.iand, 1), (.istore_n 0, 1), (.iload_n 0, 1), (.iload_n 0, 1), (.bipush 8, 2), (.athrow, 0), (.iushr, 1), (.iadd, 1)], [(.istore_n 0, 1), (.iload_n 0, 1), (.iload_n 0, 1), (.bipush 16, 2), (.athrow, 0), (.iushr, 1), (.iadd, 1), (.istore_n 0, 1)], [(.iload_n 0, 1), (.bipush 63, 2), (.athrow, 0), (.iand, 1), (.ireturn, 1)]]
def xt234 : xTb := [[(.aload_n 0, 1), (.getfield 9, 3), (.athrow, 0), (.athrow, 0), (.arraylength, 1), (.aload_n 0, 1), (.invokevirtual 335, 3), (.athrow, 0)], [(.athrow, 0), (.ishr, 1), (.ireturn, 1)]]
def xt235 : xTb := [[(.aload_n 0, 1), (.invokevirtual 492, 3), (.athrow, 0), (.athrow, 0), (.ifCond .eq 12, 3), (.athrow, 0), (.athrow, 0), (.aload_n 0, 1)], [(.getfield 9, 3), (.athrow, 0), (.athrow, 0), (.iload_n 1, 1), (.invokestatic 495, 3), (.athrow, 0), (.athrow, 0), (.ireturn, 1)], [(.aload_n 0, 1), (.getfield 9, 3), (.athrow, 0), (.athrow, 0), (.iload_n 1, 1), (.invokestatic 498, 3), (.athrow, 0), (.athrow, 0)], [(.ireturn, 1)]]
def xt236 : xTb := [[(.getstatic 38, 3), (.athrow, 0), (.athrow, 0), (.ifCond .eq 10, 3), (.athrow, 0), (.athrow, 0), (.aload_n 0, 1), (.getfield 15, 3)], [(.athrow, 0), (.athrow, 0), (.goto 4, 3), (.athrow, 0), (.athrow, 0), (.iconst 1, 1), (.ireturn, 1)]]
def xt237 : xTb := [[(.getstatic 38, 3), (.athrow, 0), (.athrow, 0), (.ifCond .eq 14, 3), (.athrow, 0), (.athrow, 0), (.aload_n 0, 1), (.getfield 15, 3)], [(.athrow, 0), (.athrow, 0), (.ifCond .ne 7, 3), (.athrow, 0), (.athrow, 0), (.iconst 1, 1), (.goto 4, 3), (.athrow, 0)], [(.athrow, 0), (.iconst 0, 1), (.ireturn, 1)]]
def xt238 : xTb := [[(.iload_n 0, 1), (.iload_n 1, 1), (.getstatic 1053, 3), (.athrow, 0), (.athrow, 0), (.invokestatic 1059, 3), (.athrow, 0), (.athrow, 0)], [(.pop, 1), (.return_, 1)]]
def xt239 : xTb := [[(.iload_n 1, 1), (.aload_n 0, 1), (.arraylength, 1), (.invokestatic 9, 3), (.athrow, 0), (.athrow, 0), (.aload_n 0, 1), (.iload_n 1, 1)], [(.baload, 1), (.sipush 255, 3), (.athrow, 0), (.athrow, 0), (.iand, 1), (.i2c, 1), (.ireturn, 1)]]
def xt240 : xTb := [[(.getstatic 44, 3), (.athrow, 0), (.athrow, 0), (.ifCond .ne 25, 3), (.athrow, 0), (.athrow, 0), (.iload_n 1, 1), (.ifCond .lt 11, 3)], [(.athrow, 0), (.athrow, 0), (.iload_n 1, 1), (.aload_n 0, 1), (.invokestatic 48, 3), (.athrow, 0), (.athrow, 0), (.if_icmp .lt 13, 3)], [(.athrow, 0), (.athrow, 0), (.new 52, 3), (.athrow, 0), (.athrow, 0), (.dup, 1), (.ldc 54, 2), (.athrow, 0)], [(.invokespecial 56, 3), (.athrow, 0), (.athrow, 0), (.athrow, 1), (.iload_n 1, 1), (.iconst 1, 1), (.ishl, 1), (.istore_n 1, 1)], [(.aload_n 0, 1), (.iload_n 1, 1), (.iinc 1 1, 3), (.athrow, 0), (.athrow, 0), (.baload, 1), (.sipush 255, 3), (.athrow, 0)], [(.athrow, 0), (.iand, 1), (.getstatic 59, 3), (.athrow, 0), (.athrow, 0), (.ishl, 1), (.aload_n 0, 1), (.iload_n 1, 1)], [(.baload, 1), (.sipush 255, 3), (.athrow, 0), (.athrow, 0), (.iand, 1), (.getstatic 63, 3), (.athrow, 0), (.athrow, 0)], [(.ishl, 1), (.ior, 1), (.i2c, 1), (.ireturn, 1)]]
def xt241 : xTb := [[(.aload_n 0, 1), (.arraylength, 1), (.iconst 1, 1), (.ishr, 1), (.ireturn, 1)]]
def xt242 : xTb := [[(.iload_n 1, 1), (.aload_n 0, 1), (.invokestatic 67, 3), (.athrow, 0), (.athrow, 0), (.aload_n 0, 1), (.iload_n 1, 1), (.invokestatic 71, 3)], [(.athrow, 0), (.athrow, 0), (.ireturn, 1)]]
def xt243 : xTb := [[(.iload_n 0, 1), (.aload_n 1, 1), (.invokestatic 48, 3), (.athrow, 0), (.athrow, 0), (.invokestatic 414, 3), (.athrow, 0), (.athrow, 0)], [(.return_, 1)]]
def xt244 : xTb := [[(.iload_n 0, 1), (.ifCond .lt 8, 3), (.athrow, 0), (.athrow, 0), (.iload_n 0, 1), (.iload_n 1, 1), (.if_icmp .lt 10, 3), (.athrow, 0)], [(.athrow, 0), (.aload_n 2, 1), (.iload_n 0, 1), (.iload_n 1, 1), (.invokestatic 95, 3), (.athrow, 0), (.athrow, 0), (.athrow, 1)], [(.iload_n 0, 1), (.ireturn, 1)]]
def xmiL0 : List xMI := [(yX0_init, cX0_init, 0, 1, 1, 0, 2, 1, 8, xt0),
  (yX0_see, cX0_see, 0, 2, 4, 0, 1, 0, 0, xt1),
  (yX0_everyone, cX0_everyone, 0, 1, 1, 1, 1, 0, 0, xt2),
  (yX0_turn, cX0_turn, 0, 3, 3, 0, 1, 0, 0, xt3),
  (yX0_companies, cX0_companies, 0, 2, 5, 1, 1, 0, 0, xt4),
  (yX0_largestCompany, cX0_largestCompany, 0, 1, 3, 1, 1, 0, 0, xt5),
  (yX0_distance, cX0_distance, 0, 3, 5, 1, 1, 0, 0, xt6),
  (yX0_longestWay, cX0_longestWay, 0, 2, 6, 1, 1, 0, 0, xt7),
  (yX0_companyOf, cX0_companyOf, 0, 3, 5, 1, 1, 0, 0, xt8),
  (yX0_further, cX0_further, 0, 2, 4, 1, 1, 0, 0, xt9),
  (yX1_init, cX1_init, 1, 3, 3, 0, 2, 0, 0, xt10),
  (yX1_readInto, cX1_readInto, 1, 2, 2, 1, 1, 0, 0, xt11),
  (yX1_readPart, cX1_readPart, 1, 3, 3, 0, 1, 0, 0, xt12),
  (yX1_read, cX1_read, 1, 3, 6, 0, 1, 0, 0, xt13),
  (yX1_readOne, cX1_readOne, 1, 2, 2, 0, 1, 0, 0, xt14),
  (yX1_opens, cX1_opens, 1, 2, 2, 3, 1, 0, 0, xt15)]
def xmiL1 : List xMI := [(yX1_expect, cX1_expect, 1, 2, 2, 0, 1, 0, 0, xt16),
  (yX1_next, cX1_next, 1, 1, 1, 0, 1, 0, 0, xt17),
  (yX1_fail, cX1_fail, 1, 1, 1, 0, 1, 0, 0, xt18),
  (yX1_levelOf, cX1_levelOf, 1, 1, 1, 1, 0, 0, 0, xt19),
  (yX1_operationOf, cX1_operationOf, 1, 1, 1, 1, 0, 0, 0, xt20),
  (yX2_init, cX2_init, 2, 1, 1, 0, 2, 1, 40, xt21),
  (yX2_isMissing, cX2_isMissing, 2, 1, 1, 3, 1, 0, 0, xt22),
  (yX2_lay, cX2_lay, 2, 3, 4, 0, 1, 0, 0, xt23),
  (yX2_holds, cX2_holds, 2, 3, 3, 3, 1, 0, 0, xt24),
  (yX2_put, cX2_put, 2, 3, 3, 0, 1, 0, 0, xt25),
  (yX2_unlikeItems, cX2_unlikeItems, 2, 2, 4, 1, 1, 0, 0, xt26),
  (yX3_init, cX3_init, 3, 2, 2, 0, 2, 13, 102, xt27),
  (yX3_become, cX3_become, 3, 2, 3, 0, 1, 0, 0, xt28),
  (yX3_add, cX3_add, 3, 3, 3, 0, 1, 0, 0, xt29),
  (yX3_tie, cX3_tie, 3, 4, 4, 0, 1, 0, 0, xt30),
  (yX3_knows, cX3_knows, 3, 3, 3, 3, 1, 0, 0, xt31)]
def xmiL2 : List xMI := [(yX3_acquaintances, cX3_acquaintances, 3, 2, 4, 1, 1, 0, 0, xt32),
  (yX3_friends, cX3_friends, 3, 1, 4, 1, 1, 0, 0, xt33),
  (yX3_allStrength, cX3_allStrength, 3, 1, 4, 1, 1, 0, 0, xt34),
  (yX3_seatsAt, cX3_seatsAt, 3, 2, 4, 1, 1, 0, 0, xt35),
  (yX3_seated, cX3_seated, 3, 1, 3, 1, 1, 0, 0, xt36),
  (yX3_meets, cX3_meets, 3, 3, 4, 1, 1, 0, 0, xt37),
  (yX3_forgets, cX3_forgets, 3, 3, 4, 1, 1, 0, 0, xt38),
  (yX3_sounds, cX3_sounds, 3, 2, 3, 1, 1, 0, 0, xt39),
  (yX3_look, cX3_look, 3, 3, 3, 0, 1, 0, 0, xt40),
  (yX3_holdFeast, cX3_holdFeast, 3, 1, 4, 0, 1, 0, 0, xt41),
  (yX3_endYear, cX3_endYear, 3, 1, 4, 0, 1, 0, 0, xt42),
  (yX3_pass, cX3_pass, 3, 2, 3, 1, 1, 0, 0, xt43),
  (yX3_quietTable, cX3_quietTable, 3, 1, 5, 1, 1, 0, 0, xt44),
  (yX3_dinAt, cX3_dinAt, 3, 2, 4, 1, 1, 0, 0, xt45),
  (yX4_init, cX4_init, 4, 1, 1, 0, 2, 4, 643, xt46),
  (yX4_put, cX4_put, 4, 2, 2, 3, 1, 0, 0, xt47)]
def xmiL3 : List xMI := [(yX4_empty, cX4_empty, 4, 1, 1, 0, 1, 0, 0, xt48),
  (yX4_cut, cX4_cut, 4, 1, 2, 0, 1, 0, 0, xt49),
  (yX4_cutNumber, cX4_cutNumber, 4, 2, 3, 0, 1, 0, 0, xt50),
  (yX4_cutWord, cX4_cutWord, 4, 2, 3, 0, 1, 0, 0, xt51),
  (yX4_nameFrom, cX4_nameFrom, 4, 2, 2, 1, 1, 0, 0, xt52),
  (yX4_keyFrom, cX4_keyFrom, 4, 2, 2, 1, 1, 0, 0, xt53),
  (yX4_reads, cX4_reads, 4, 3, 4, 3, 1, 0, 0, xt54),
  (yX4_isBlank, cX4_isBlank, 4, 1, 1, 3, 0, 0, 0, xt55),
  (yX4_isDigit, cX4_isDigit, 4, 1, 1, 3, 0, 0, 0, xt56),
  (yX4_isSmall, cX4_isSmall, 4, 1, 1, 3, 0, 0, 0, xt57),
  (yX5_init, cX5_init, 5, 2, 2, 0, 2, 3, 203, xt58),
  (yX5_clear, cX5_clear, 5, 1, 1, 0, 1, 0, 0, xt59),
  (yX5_write, cX5_write, 5, 2, 2, 0, 1, 0, 0, xt60),
  (yX5_endPart, cX5_endPart, 5, 2, 2, 0, 1, 0, 0, xt61),
  (yX5_value, cX5_value, 5, 3, 7, 1, 1, 0, 0, xt62),
  (yX5_turned, cX5_turned, 5, 2, 2, 1, 0, 0, 0, xt63)]
def xmiL4 : List xMI := [(yX5_joined, cX5_joined, 5, 3, 3, 1, 0, 0, 0, xt64),
  (yX6_init, cX6_init, 6, 1, 2, 0, 2, 84, 2427, xt65),
  (yX6_set, cX6_set, 6, 4, 5, 1, 1, 0, 0, xt66),
  (yX6_house, cX6_house, 6, 3, 3, 1, 1, 0, 0, xt67),
  (yX6_bind, cX6_bind, 6, 4, 5, 1, 1, 0, 0, xt68),
  (yX6_told, cX6_told, 6, 3, 4, 1, 1, 0, 0, xt69),
  (yX6_feed, cX6_feed, 6, 2, 2, 1, 1, 0, 0, xt70),
  (yX6_text, cX6_text, 6, 1, 2, 1, 1, 0, 0, xt71),
  (yX6_force, cX6_force, 6, 2, 3, 1, 1, 0, 0, xt72),
  (yX6_asks, cX6_asks, 6, 4, 4, 1, 1, 0, 0, xt73),
  (yX6_feast, cX6_feast, 6, 1, 1, 1, 1, 0, 0, xt74),
  (yX6_year, cX6_year, 6, 1, 1, 1, 1, 0, 0, xt75),
  (yX6_street, cX6_street, 6, 2, 2, 1, 1, 0, 0, xt76),
  (yX6_way, cX6_way, 6, 3, 3, 1, 1, 0, 0, xt77),
  (yX6_run, cX6_run, 6, 3, 3, 1, 1, 0, 0, xt78),
  (yX6_takes, cX6_takes, 6, 2, 4, 1, 1, 0, 0, xt79)]
def xmiL5 : List xMI := [(yX6_best, cX6_best, 6, 4, 8, 1, 1, 0, 0, xt80),
  (yX6_change, cX6_change, 6, 3, 8, 1, 1, 0, 0, xt81),
  (yX6_split, cX6_split, 6, 3, 8, 1, 1, 0, 0, xt82),
  (yX6_missed, cX6_missed, 6, 2, 6, 1, 1, 0, 0, xt83),
  (yX6_match, cX6_match, 6, 2, 7, 1, 1, 0, 0, xt84),
  (yX6_tells, cX6_tells, 6, 4, 5, 1, 1, 0, 0, xt85),
  (yX6_film, cX6_film, 6, 3, 5, 1, 1, 0, 0, xt86),
  (yX6_drawn, cX6_drawn, 6, 3, 3, 1, 1, 0, 0, xt87),
  (yX6_chance, cX6_chance, 6, 5, 7, 2, 1, 0, 0, xt88),
  (yX6_image, cX6_image, 6, 1, 1, 1, 1, 0, 0, xt89),
  (yX6_back, cX6_back, 6, 1, 1, 1, 1, 0, 0, xt90),
  (yX6_count, cX6_count, 6, 2, 2, 1, 1, 0, 0, xt91),
  (yX6_sheet, cX6_sheet, 6, 4, 4, 1, 1, 0, 0, xt92),
  (yX6_cell, cX6_cell, 6, 4, 5, 1, 1, 0, 0, xt93),
  (yX6_copy, cX6_copy, 6, 6, 8, 1, 1, 0, 0, xt94),
  (yX6_houses, cX6_houses, 6, 5, 9, 1, 1, 0, 0, xt95)]
def xmiL6 : List xMI := [(yX6_taken, cX6_taken, 6, 3, 3, 1, 1, 0, 0, xt96),
  (yX6_isHouse, cX6_isHouse, 6, 2, 2, 3, 1, 0, 0, xt97),
  (yX6_isTwo, cX6_isTwo, 6, 3, 3, 3, 1, 0, 0, xt98),
  (yX6_isSheet, cX6_isSheet, 6, 1, 1, 3, 0, 0, 0, xt99),
  (yX6_isSort, cX6_isSort, 6, 1, 1, 3, 0, 0, 0, xt100),
  (yX6_isYears, cX6_isYears, 6, 1, 1, 3, 0, 0, 0, xt101),
  (yX6_isFriends, cX6_isFriends, 6, 1, 1, 3, 0, 0, 0, xt102),
  (yX6_isEither, cX6_isEither, 6, 1, 1, 3, 0, 0, 0, xt103),
  (yX6_isUnder, cX6_isUnder, 6, 2, 4, 3, 0, 0, 0, xt104),
  (yX6_setting, cX6_setting, 6, 3, 3, 1, 1, 0, 0, xt105),
  (yX6_settle, cX6_settle, 6, 3, 3, 1, 1, 0, 0, xt106),
  (yX6_figure, cX6_figure, 6, 3, 3, 1, 1, 0, 0, xt107),
  (yX6_canChange, cX6_canChange, 6, 3, 5, 3, 1, 0, 0, xt108),
  (yX6_friendsDrawn, cX6_friendsDrawn, 6, 3, 5, 1, 1, 0, 0, xt109),
  (yX6_commonDivisor, cX6_commonDivisor, 6, 2, 6, 1, 0, 0, 0, xt110),
  (yX6_otherwise, cX6_otherwise, 6, 3, 3, 1, 1, 0, 0, xt111)]
def xmiL7 : List xMI := [(yX6_possible, cX6_possible, 6, 4, 7, 1, 1, 0, 0, xt112),
  (yX6_choices, cX6_choices, 6, 2, 2, 1, 1, 0, 0, xt113),
  (yX6_suppose, cX6_suppose, 6, 4, 4, 0, 1, 0, 0, xt114),
  (yX6_limits, cX6_limits, 6, 3, 5, 1, 1, 0, 0, xt115),
  (yX6_leastLimit, cX6_leastLimit, 6, 3, 4, 1, 1, 0, 0, xt116),
  (yX6_fits, cX6_fits, 6, 4, 6, 3, 1, 0, 0, xt117),
  (yX7_in, cX7_in, 7, 3, 6, 3, 0, 0, 0, xt118),
  (yX7_within, cX7_within, 7, 3, 3, 1, 0, 0, 0, xt119),
  (yX7_init, cX7_init, 7, 1, 1, 0, 2, 17, 1602, xt120),
  (yX7_spell, cX7_spell, 7, 10, 10, 0, 1, 0, 0, xt121),
  (yX7_isHouse, cX7_isHouse, 7, 2, 2, 3, 1, 0, 0, xt122),
  (yX7_isValue, cX7_isValue, 7, 2, 2, 3, 0, 0, 0, xt123),
  (yX7_set, cX7_set, 7, 4, 5, 1, 1, 0, 0, xt124),
  (yX7_lays, cX7_lays, 7, 4, 4, 0, 1, 0, 0, xt125),
  (yX7_strengthOf, cX7_strengthOf, 7, 3, 3, 1, 1, 0, 0, xt126),
  (yX7_binds, cX7_binds, 7, 4, 5, 0, 1, 0, 0, xt127)]
def xmiL8 : List xMI := [(yX7_house, cX7_house, 7, 3, 4, 1, 1, 0, 0, xt128),
  (yX7_areTwo, cX7_areTwo, 7, 3, 3, 3, 1, 0, 0, xt129),
  (yX7_bind, cX7_bind, 7, 4, 5, 1, 1, 0, 0, xt130),
  (yX7_told, cX7_told, 7, 3, 6, 1, 1, 0, 0, xt131),
  (yX7_seatsOf, cX7_seatsOf, 7, 2, 4, 1, 1, 0, 0, xt132),
  (yX7_feed, cX7_feed, 7, 2, 2, 1, 1, 0, 0, xt133),
  (yX7_byteAt, cX7_byteAt, 7, 2, 2, 1, 1, 0, 0, xt134),
  (yX7_next, cX7_next, 7, 1, 3, 0, 1, 0, 0, xt135),
  (yX7_fail, cX7_fail, 7, 1, 1, 0, 1, 0, 0, xt136),
  (yX7_isLetter, cX7_isLetter, 7, 3, 3, 3, 1, 0, 0, xt137),
  (yX7_isWord, cX7_isWord, 7, 9, 9, 3, 1, 0, 0, xt138),
  (yX7_isSign, cX7_isSign, 7, 2, 2, 3, 1, 0, 0, xt139),
  (yX7_opens, cX7_opens, 7, 1, 1, 3, 1, 0, 0, xt140),
  (yX7_name, cX7_name, 7, 1, 1, 1, 1, 0, 0, xt141),
  (yX7_atom5, cX7_atom5, 7, 1, 2, 1, 1, 0, 0, xt142),
  (yX7_term5, cX7_term5, 7, 1, 2, 1, 1, 0, 0, xt143)]
def xmiL9 : List xMI := [(yX7_added5, cX7_added5, 7, 1, 4, 1, 1, 0, 0, xt144),
  (yX7_not5, cX7_not5, 7, 1, 4, 1, 1, 0, 0, xt145),
  (yX7_both5, cX7_both5, 7, 1, 3, 1, 1, 0, 0, xt146),
  (yX7_either5, cX7_either5, 7, 1, 3, 1, 1, 0, 0, xt147),
  (yX7_atom4, cX7_atom4, 7, 1, 2, 1, 1, 0, 0, xt148),
  (yX7_term4, cX7_term4, 7, 1, 2, 1, 1, 0, 0, xt149),
  (yX7_added4, cX7_added4, 7, 1, 4, 1, 1, 0, 0, xt150),
  (yX7_not4, cX7_not4, 7, 1, 4, 1, 1, 0, 0, xt151),
  (yX7_both4, cX7_both4, 7, 1, 3, 1, 1, 0, 0, xt152),
  (yX7_either4, cX7_either4, 7, 1, 3, 1, 1, 0, 0, xt153),
  (yX7_atom3, cX7_atom3, 7, 1, 2, 1, 1, 0, 0, xt154),
  (yX7_term3, cX7_term3, 7, 1, 2, 1, 1, 0, 0, xt155),
  (yX7_added3, cX7_added3, 7, 1, 4, 1, 1, 0, 0, xt156),
  (yX7_not3, cX7_not3, 7, 1, 4, 1, 1, 0, 0, xt157),
  (yX7_both3, cX7_both3, 7, 1, 3, 1, 1, 0, 0, xt158),
  (yX7_either3, cX7_either3, 7, 1, 3, 1, 1, 0, 0, xt159)]
def xmiL10 : List xMI := [(yX7_atom2, cX7_atom2, 7, 1, 2, 1, 1, 0, 0, xt160),
  (yX7_term2, cX7_term2, 7, 1, 2, 1, 1, 0, 0, xt161),
  (yX7_added2, cX7_added2, 7, 1, 4, 1, 1, 0, 0, xt162),
  (yX7_not2, cX7_not2, 7, 1, 4, 1, 1, 0, 0, xt163),
  (yX7_both2, cX7_both2, 7, 1, 3, 1, 1, 0, 0, xt164),
  (yX7_either2, cX7_either2, 7, 1, 3, 1, 1, 0, 0, xt165),
  (yX7_atom1, cX7_atom1, 7, 1, 2, 1, 1, 0, 0, xt166),
  (yX7_term1, cX7_term1, 7, 1, 2, 1, 1, 0, 0, xt167),
  (yX7_added1, cX7_added1, 7, 1, 4, 1, 1, 0, 0, xt168),
  (yX7_not1, cX7_not1, 7, 1, 4, 1, 1, 0, 0, xt169),
  (yX7_both1, cX7_both1, 7, 1, 3, 1, 1, 0, 0, xt170),
  (yX7_either1, cX7_either1, 7, 1, 3, 1, 1, 0, 0, xt171),
  (yX7_atom0, cX7_atom0, 7, 1, 2, 1, 1, 0, 0, xt172),
  (yX7_term0, cX7_term0, 7, 1, 2, 1, 1, 0, 0, xt173),
  (yX7_added0, cX7_added0, 7, 1, 4, 1, 1, 0, 0, xt174),
  (yX7_not0, cX7_not0, 7, 1, 4, 1, 1, 0, 0, xt175)]
def xmiL11 : List xMI := [(yX7_both0, cX7_both0, 7, 1, 3, 1, 1, 0, 0, xt176),
  (yX7_either0, cX7_either0, 7, 1, 3, 1, 1, 0, 0, xt177),
  (yX7_part, cX7_part, 7, 2, 3, 1, 1, 0, 0, xt178),
  (yX7_read, cX7_read, 7, 3, 6, 1, 1, 0, 0, xt179),
  (yX7_text, cX7_text, 7, 1, 2, 1, 1, 0, 0, xt180),
  (yX7_force, cX7_force, 7, 2, 3, 1, 1, 0, 0, xt181),
  (yX7_says, cX7_says, 7, 4, 4, 1, 1, 0, 0, xt182),
  (yX7_apart, cX7_apart, 7, 2, 2, 1, 0, 0, 0, xt183),
  (yX7_meetsOf, cX7_meetsOf, 7, 3, 5, 1, 1, 0, 0, xt184),
  (yX7_fadesOf, cX7_fadesOf, 7, 3, 5, 1, 1, 0, 0, xt185),
  (yX7_soundsOf, cX7_soundsOf, 7, 2, 4, 1, 1, 0, 0, xt186),
  (yX7_asks, cX7_asks, 7, 4, 4, 1, 1, 0, 0, xt187),
  (yX7_feasts, cX7_feasts, 7, 1, 4, 0, 1, 0, 0, xt188),
  (yX7_fades, cX7_fades, 7, 1, 4, 0, 1, 0, 0, xt189),
  (yX7_feast, cX7_feast, 7, 1, 1, 1, 1, 0, 0, xt190),
  (yX7_year, cX7_year, 7, 1, 1, 1, 1, 0, 0, xt191)]
def xmiL12 : List xMI := [(yX7_knows, cX7_knows, 7, 3, 3, 3, 1, 0, 0, xt192),
  (yX7_friends, cX7_friends, 7, 1, 4, 1, 1, 0, 0, xt193),
  (yX7_waysAll, cX7_waysAll, 7, 1, 7, 0, 1, 0, 0, xt194),
  (yX7_companies, cX7_companies, 7, 1, 5, 1, 1, 0, 0, xt195),
  (yX7_largest, cX7_largest, 7, 1, 5, 1, 1, 0, 0, xt196),
  (yX7_longest, cX7_longest, 7, 2, 6, 1, 1, 0, 0, xt197),
  (yX7_strengthAll, cX7_strengthAll, 7, 1, 4, 1, 1, 0, 0, xt198),
  (yX7_quietest, cX7_quietest, 7, 1, 7, 1, 1, 0, 0, xt199),
  (yX7_tellsOf, cX7_tellsOf, 7, 2, 2, 1, 1, 0, 0, xt200),
  (yX7_street, cX7_street, 7, 2, 2, 1, 1, 0, 0, xt201),
  (yX7_way, cX7_way, 7, 3, 3, 1, 1, 0, 0, xt202),
  (yX7_laysAside, cX7_laysAside, 7, 1, 2, 0, 1, 0, 0, xt203),
  (yX7_laysBack, cX7_laysBack, 7, 1, 2, 0, 1, 0, 0, xt204),
  (yX7_lives, cX7_lives, 7, 2, 3, 0, 1, 0, 0, xt205),
  (yX7_run, cX7_run, 7, 3, 4, 1, 1, 0, 0, xt206),
  (yX7_friendsBehind, cX7_friendsBehind, 7, 2, 3, 1, 1, 0, 0, xt207)]
def xmiL13 : List xMI := [(yX7_takes, cX7_takes, 7, 2, 3, 1, 1, 0, 0, xt208),
  (yX7_best, cX7_best, 7, 4, 9, 1, 1, 0, 0, xt209),
  (yX7_change, cX7_change, 7, 3, 10, 1, 1, 0, 0, xt210),
  (yX7_clears, cX7_clears, 7, 1, 2, 0, 1, 0, 0, xt211),
  (yX7_sitsAgain, cX7_sitsAgain, 7, 1, 2, 0, 1, 0, 0, xt212),
  (yX7_split, cX7_split, 7, 3, 7, 1, 1, 0, 0, xt213),
  (yX7_missed, cX7_missed, 7, 2, 6, 1, 1, 0, 0, xt214),
  (yX7_match, cX7_match, 7, 2, 7, 1, 1, 0, 0, xt215),
  (yX7_unlike, cX7_unlike, 7, 3, 5, 1, 1, 0, 0, xt216),
  (yX7_limitsBy, cX7_limitsBy, 7, 4, 9, 1, 1, 0, 0, xt217),
  (yX7_tells, cX7_tells, 7, 4, 9, 1, 1, 0, 0, xt218),
  (yX7_film, cX7_film, 7, 3, 4, 1, 1, 0, 0, xt219),
  (yX7_friendsBy, cX7_friendsBy, 7, 3, 5, 1, 1, 0, 0, xt220),
  (yX7_drawn, cX7_drawn, 7, 3, 3, 1, 1, 0, 0, xt221),
  (yX7_chance, cX7_chance, 7, 5, 13, 2, 1, 0, 0, xt222),
  (yX7_image, cX7_image, 7, 1, 2, 1, 1, 0, 0, xt223)]
def xmiL14 : List xMI := [(yX7_back, cX7_back, 7, 1, 2, 1, 1, 0, 0, xt224),
  (yX7_count, cX7_count, 7, 2, 4, 1, 1, 0, 0, xt225),
  (yX7_isSheet, cX7_isSheet, 7, 1, 1, 3, 0, 0, 0, xt226),
  (yX7_sheet, cX7_sheet, 7, 4, 5, 1, 1, 0, 0, xt227),
  (yX7_cell, cX7_cell, 7, 4, 4, 1, 1, 0, 0, xt228),
  (yX7_copy, cX7_copy, 7, 6, 9, 1, 1, 0, 0, xt229),
  (yX7_houses, cX7_houses, 7, 5, 8, 1, 1, 0, 0, xt230),
  (yX7_over, cX7_over, 7, 1, 1, 1, 0, 0, 0, xt231),
  (yX7_taken, cX7_taken, 7, 3, 4, 1, 1, 0, 0, xt232),
  (yJ6_bitCount_0f7a4, cJ6_bitCount_0f7a4, 16, 1, 1, 1, 0, 0, 0, xt233),
  (yJ0_length_8abf5, cJ0_length_8abf5, 10, 1, 1, 1, 1, 0, 0, xt234),
  (yJ0_charAt_5068e, cJ0_charAt_5068e, 10, 2, 2, 5, 1, 0, 0, xt235),
  (yJ0_coder_7d493, cJ0_coder_7d493, 10, 1, 1, 4, 1, 0, 0, xt236),
  (yJ0_isLatin1_aae02, cJ0_isLatin1_aae02, 10, 1, 1, 3, 1, 0, 0, xt237),
  (yJ0_checkIndex_df160, cJ0_checkIndex_df160, 10, 2, 2, 0, 0, 0, 0, xt238),
  (yJ1_charAt_3b067, cJ1_charAt_3b067, 11, 2, 2, 5, 0, 0, 0, xt239)]
def xmiL15 : List xMI := [(yJ2_getChar_3b067, cJ2_getChar_3b067, 12, 2, 2, 5, 0, 0, 0, xt240),
  (yJ2_length_9d52b, cJ2_length_9d52b, 12, 1, 1, 1, 0, 0, 0, xt241),
  (yJ2_charAt_3b067, cJ2_charAt_3b067, 12, 2, 2, 5, 0, 0, 0, xt242),
  (yJ2_checkIndex_2214a, cJ2_checkIndex_2214a, 12, 2, 2, 0, 0, 0, 0, xt243),
  (yJ3_checkIndex_8e157, cJ3_checkIndex_8e157, 13, 3, 3, 1, 0, 0, 0, xt244)]
def xmiL : List (List xMI) := [xmiL0, xmiL1, xmiL2, xmiL3, xmiL4, xmiL5, xmiL6, xmiL7, xmiL8, xmiL9, xmiL10, xmiL11, xmiL12, xmiL13, xmiL14, xmiL15]
def xmi (j : Nat) : Option xMI := match xnth xmiL (j / 16) with
  | some l => xnth l (j % 16)
  | none => none
end
section
/-! one instruction, a method, a call -/
section XH
variable (pc : Nat) (lo : List (Option Value)) (st : List Value) (C : List xCel) (rg : xRG) (uc us : Nat)
def xget (own idx : Nat) : xRes := match xfl own idx with
  | some (ci, k) => (match st with
    | .ref a :: r => if ci = 200 then (if xB + 10 ≤ a ∧ a < xB + 23 then (if k = 0 then xgo (pc + 3) lo (.ref (a + 20) :: r) C rg uc us else xgo (pc + 3) lo (.int 0 :: r) C rg uc us) else none)
      else (match xnth C a with
        | some (tag, fs) => if tag = ci then (match xnth fs k with
          | some v => xgo (pc + 3) lo (v :: r) C rg uc us
          | none => none) else none
        | none => none)
    | _ => none)
  | none => none
/-- does a value fit a field -/
def xfits (rg : xRG) (ty : Nat) (v : Value) : Bool := match ty with
  | 0 => xisI v
  | 1 => (match v with
    | .int x => x == 0 || x == 1
    | _ => false)
  | 3 => xisL v
  | _ => xisR v
def xput (kd own idx : Nat) : xRes := match xfl own idx with
  | some (ci, k) => (match st with
    | v :: .ref a :: r => (match xnth C a with
      | some (tag, fs) => if tag = ci ∧ ci < 100 ∧ k < fs.length then (if xfits rg (xty ci k) v then (if xfin ci k = false ∨ (kd = 2 ∧ own = ci) then xset fs k v fun fs' => xset C a (tag, fs') fun C' => xgo (pc + 3) lo r C' rg uc us else none) else none) else none
      | none => none)
    | _ => none)
  | none => none
def xgets (own idx : Nat) : xRes := match xgs own idx with
  | some k => (match xnth xStat k with
    | some q => xgo (pc + 3) lo (q.2.2.2 :: st) C rg uc us
    | none => none)
  | none => none
/-- a place of a row: the row's values where it is one of ours, or one outside -/
def xrow (tag : Nat) (a : Nat) : Option (List Value) := if a < xB then (match xnth C a with
    | some (t, xs) => if t = tag then some xs else none
    | none => none)
  else if tag = 100 then (match xnth xTab (a - xB) with
    | some l => if a < xB + 3 then some (l.map Value.int) else none
    | none => none)
  else if tag = 105 then (if xB + 30 ≤ a then (match xnth xByt (a - (xB + 30)) with
    | some l => some (l.map Value.int)
    | none => none) else none)
  else none
def xald (tag : Nat) (ok : Value → Bool) : xRes := match st with
  | i :: .ref a :: r => (match xci rg i with
    | some x => if x.toInt < 0 then none else (match xrow C tag a with
      | some xs => (match xnth xs x.toInt.toNat with
        | some v => if ok v then xgo (pc + 1) lo (v :: r) C rg uc us else none
        | none => none)
      | none => none)
    | none => xfork pc lo st C uc us (xcs rg i))
  | _ => none
def xbald : xRes := match st with
  | _ :: .ref a :: _ => if a < xB then xald pc lo st C rg uc us 101 xisI else xald pc lo st C rg uc us 105 xisI
  | _ => none
/-- which values a row takes: the class of what is laid into a row of references -/
def xtak (tag : Nat) (v : Value) : Option Value := if tag = 100 then (if xisI v then some v else none)
  else if tag = 101 then (match xci rg v with
    | some x => some (.int (vp_nar .boolean x))
    | none => none)
  else (match v with
    | .ref b => (match xnth C b with
      | some (t, _) => if (tag = 102 ∧ t = 5) ∨ (tag = 103 ∧ t = 2) then some v else none
      | none => none)
    | _ => none)
def xast (tag : Nat) : xRes := match st with
  | v :: i :: .ref a :: r => (match xci rg i with
    | some x => if x.toInt < 0 then none else (match xnth C a with
      | some (t, xs) => if t = tag ∧ x.toInt.toNat < xs.length then (match xtak C rg tag v with
        | some w => xset xs x.toInt.toNat w fun xs' => xset C a (t, xs') fun C' => xgo (pc + 1) lo r C' rg uc us
        | none => xfork pc lo st C uc us (xcs rg v)) else none
      | none => none)
    | none => xfork pc lo st C uc us (xcs rg i))
  | _ => none
def xastq : xRes := match st with
  | _ :: _ :: .ref a :: _ => (match xnth C a with
    | some (t, _) => if t = 102 then xast pc lo st C rg uc us 102 else if t = 103 then xast pc lo st C rg uc us 103 else none
    | none => none)
  | _ => none
def xaldq : xRes := match st with
  | _ :: .ref a :: _ => (match xnth C a with
    | some (t, _) => if 102 ≤ t ∧ t < 105 then xald pc lo st C rg uc us t xisR else none
    | none => none)
  | _ => none
def xalen : xRes := match st with
  | .ref a :: r => if a < xB then (match xnth C a with
      | some (t, xs) => if 100 ≤ t ∧ t < 105 then xfI (Int32.ofNat xs.length) fun z => xgo (pc + 1) lo (.int z :: r) C rg uc us else none
      | none => none)
    else if xB + 30 ≤ a then (match xnth xByt (a - (xB + 30)) with
      | some l => xfI (Int32.ofNat l.length) fun z => xgo (pc + 1) lo (.int z :: r) C rg uc us
      | none => none) else none
  | _ => none
def xnew (mc ms own idx : Nat) : xRes := match xkl own idx with
  | some ci => (match xnth xDf ci with
    | some fs => if uc + 1 ≤ mc ∧ us + fs.length ≤ ms ∧ C.length < xB ∧ ci < 100 then xfN (uc + 1) fun uc' => xfN (us + fs.length) fun us' => xgo (pc + 3) lo (.ref C.length :: st) (C ++ [(ci, fs)]) rg uc' us' else none
    | none => none)
  | none => none
def xnewa (mc ms tag : Nat) : xRes := match st with
  | .int n :: r => if 0 ≤ n.toInt ∧ n.toInt ≤ 100000 ∧ uc + 1 ≤ mc ∧ us + n.toInt.toNat ≤ ms ∧ C.length < xB then xfN (uc + 1) fun uc' => xfN (us + n.toInt.toNat) fun us' => xgo (pc + 2) lo (.ref C.length :: r) (C ++ [(tag, List.replicate n.toInt.toNat (.int 0))]) rg uc' us' else none
  | _ => none
def xnewq (mc ms own idx : Nat) : xRes := match st with
  | .int n :: r => (match xkl own idx with
    | some ci => if 0 ≤ n.toInt ∧ n.toInt ≤ 100000 ∧ uc + 1 ≤ mc ∧ us + n.toInt.toNat ≤ ms ∧ C.length < xB ∧ (ci = 5 ∨ ci = 2) then xfN (uc + 1) fun uc' => xfN (us + n.toInt.toNat) fun us' => xgo (pc + 3) lo (.ref C.length :: r) (C ++ [(if ci = 5 then 102 else 103, List.replicate n.toInt.toNat .null)]) rg uc' us' else none
    | none => none)
  | _ => none
/-- new int[n][k] -/
def xnew2 (mc ms own idx : Nat) : xRes := match st with
  | .int k :: .int n :: r => (match xkl own idx with
    | some ci => if ci = 104 ∧ 0 ≤ n.toInt ∧ n.toInt ≤ 1000 ∧ 0 ≤ k.toInt ∧ k.toInt ≤ 1000 ∧ uc + 1 + n.toInt.toNat ≤ mc ∧ us + n.toInt.toNat + n.toInt.toNat * k.toInt.toNat ≤ ms ∧ C.length + n.toInt.toNat < xB then xfN (uc + 1 + n.toInt.toNat) fun uc' => xfN (us + n.toInt.toNat + n.toInt.toNat * k.toInt.toNat) fun us' => xgo (pc + 4) lo (.ref C.length :: r) (C ++ ((104, (List.range n.toInt.toNat).map fun i => Value.ref (C.length + 1 + i)) :: List.replicate n.toInt.toNat (100, List.replicate k.toInt.toNat (.int 0)))) rg uc' us' else none
    | none => none)
  | _ => none
def xcopy : xRes := match st with
  | .int n :: .int dp :: .ref d :: .int sp :: .ref s :: r => if 0 ≤ n.toInt ∧ 0 ≤ dp.toInt ∧ 0 ≤ sp.toInt ∧ r.length ≤ 4 then (match xnth C s with
    | some (t1, xs) => (match xnth C d with
      | some (t2, ys) => if t1 = 100 ∧ t2 = 100 ∧ sp.toInt.toNat + n.toInt.toNat ≤ xs.length ∧ dp.toInt.toNat + n.toInt.toNat ≤ ys.length then xset C d (t2, ys.take dp.toInt.toNat ++ ((xs.drop sp.toInt.toNat).take n.toInt.toNat ++ ys.drop (dp.toInt.toNat + n.toInt.toNat))) fun C' => xgo (pc + 3) lo r C' rg uc us else none
      | none => none)
    | none => none) else none
  | _ => none
def xmath2 (f : Int32 → Int32 → Int32) : xRes := match st with
  | b :: a :: r => (match xci rg a with
    | some x => (match xci rg b with
      | some y => if r.length ≤ 4 then xfI (f x y) fun z => xgo (pc + 3) lo (.int z :: r) C rg uc us else none
      | none => xfork pc lo st C uc us (xcs rg b))
    | none => xfork pc lo st C uc us (xcs rg a))
  | _ => none
def xmath1 (f : Int32 → Int32) : xRes := match st with
  | a :: r => (match xci rg a with
    | some x => if r.length ≤ 4 then xfI (f x) fun z => xgo (pc + 3) lo (.int z :: r) C rg uc us else none
    | none => xfork pc lo st C uc us (xcs rg a))
  | _ => none
/-- the arguments, the first one first; what is left -/
def xpop : Nat → List Value → List Value → Option (List Value × List Value)
  | 0, acc, st => some (acc, st)
  | n + 1, acc, v :: st => xpop n (v :: acc) st
  | _ + 1, _, [] => none
def xback (uc' us' : Nat) (r : List Value) (lf : xLf) : xFr := (pc + 3, lo, lf.1.toList ++ r, lf.2.1, lf.2.2, uc', us')
def xcallR (uc' us' : Nat) (r : List Value) (o : Option (List xLf)) : xRes := match o with
  | none => none
  | some l => (match l with
    | [lf] => some (.inl (xback pc lo uc' us' r lf))
    | l => some (.inr (.inr (l.map (xback pc lo uc' us' r)))))
def xrecv (kd own : Nat) (as : List Value) : Bool := match kd with
  | 0 => true
  | _ => (match as with
    | .ref a :: _ => if own = 10 then (decide (xB + 10 ≤ a) && decide (a < xB + 23)) else (match xnth C a with
      | some (t, _) => decide (t = own) && decide (t < 100)
      | none => false)
    | _ => false)
def xcall (call : Nat → List Value → List xCel → xRG → Option (List xLf)) (mc ms kd j : Nat) : xRes := match xmi j with
  | some (_, _, own, na, _, _, kd', mc', ms', _) => if kd' = kd then (match xpop na [] st with
    | some (as, r) => if r.length ≤ 4 ∧ uc + mc' ≤ mc ∧ us + ms' ≤ ms ∧ xrecv C kd own as = true then xfN (uc + mc') fun uc' => xfN (us + ms') fun us' => xcallR pc lo uc' us' r (call j as C rg) else none
    | none => none) else none
  | none => none
/-- calls of what is no method of ours -/
def xspec (kd own idx : Nat) (call : Nat → xRes) : xRes := match xml own idx with
  | some 0 => (match st with
    | .ref _ :: r => if kd = 2 ∧ r.length ≤ 4 then xgo (pc + 3) lo r C rg uc us else none
    | _ => none)
  | some 1 => if kd = 0 then xcopy pc lo st C rg uc us else none
  | some 2 => if kd = 0 then xmath2 pc lo st C rg uc us (fun x y => if x < y then y else x) else none
  | some 3 => if kd = 0 then xmath2 pc lo st C rg uc us (fun x y => if y < x then y else x) else none
  | some 4 => if kd = 0 then xmath1 pc lo st C rg uc us (fun x => if x < 0 then -x else x) else none
  | some j => call (j - 10)
  | none => none
/-- does an answer fit -/
def xrfit (rk : Nat) (v : Value) : Bool := match rk with
  | 1 => xisI v
  | 2 => xisL v
  | 3 => (match v with
    | .int x => x == 0 || x == 1
    | _ => false)
  | 4 => (match v with
    | .int x => x.toInt8.toInt32 == x
    | _ => false)
  | 5 => (match v with
    | .int x => decide (narrow .char (.int x) = .int x)
    | _ => false)
  | _ => false
def xret (mc ms rk : Nat) : xRes := match st with
  | [v] => if uc = mc ∧ us ≤ ms ∧ xrfit rk v = true then some (.inr (.inl (some v, C, rg))) else none
  | _ => none
end XH
def xldc (own idx : Nat) : Option Value := match xco own idx with
  | some v => some (.int v)
  | none => (match xls own idx with
    | some i => some (.ref (xB + 10 + i))
    | none => none)
/-- one instruction of method (own, mx, rk, kd, mc, ms) -/
def xstepI (call : Nat → List Value → List xCel → xRG → Option (List xLf)) (own mx rk kd mc ms : Nat) (I : Instr) (len : Nat) (pc : Nat) (lo : List (Option Value)) (st : List Value) (C : List xCel) (rg : xRG) (uc us : Nat) : xRes := match I with
  | .iload_n k => xload pc lo st C rg uc us xisI k.val 1
  | .iload i => xload pc lo st C rg uc us xisI i 2
  | .aload_n k => xload pc lo st C rg uc us xisR k.val 1
  | .aload i => xload pc lo st C rg uc us xisR i 2
  | .lload_n k => xload pc lo st C rg uc us xisL k.val 1
  | .lload i => xload pc lo st C rg uc us xisL i 2
  | .istore_n k => xstore1 pc lo st C rg uc us xisI mx k.val 1
  | .istore i => xstore1 pc lo st C rg uc us xisI mx i 2
  | .astore_n k => xstore1 pc lo st C rg uc us xisR mx k.val 1
  | .astore i => xstore1 pc lo st C rg uc us xisR mx i 2
  | .lstore_n k => xstore2 pc lo st C rg uc us mx k.val 1
  | .lstore i => xstore2 pc lo st C rg uc us mx i 2
  | .iconst n => xgo (pc + 1) lo (.int (Int32.ofInt n) :: st) C rg uc us
  | .bipush n => xgo (pc + 2) lo (.int (Int8.ofInt n).toInt32 :: st) C rg uc us
  | .sipush n => xgo (pc + 3) lo (.int (Int16.ofInt n).toInt32 :: st) C rg uc us
  | .lconst n => xgo (pc + 1) lo (.long (Int64.ofNat n.val) :: st) C rg uc us
  | .ldc idx => (match xldc own idx with
    | some v => xgo (pc + 2) lo (v :: st) C rg uc us
    | none => none)
  | .ldc_w idx => (match xco own idx with
    | some v => xgo (pc + 3) lo (.int v :: st) C rg uc us
    | none => none)
  | .ldc2_w idx => (match xcoL own idx with
    | some v => xgo (pc + 3) lo (.long v :: st) C rg uc us
    | none => none)
  | .iadd => xadd pc lo st C rg uc us
  | .isub => xbin pc lo st C rg uc us (fun x y => some (x - y))
  | .imul => xbin pc lo st C rg uc us (fun x y => some (x * y))
  | .iand => xbin pc lo st C rg uc us (fun x y => some (x &&& y))
  | .ior => xbin pc lo st C rg uc us (fun x y => some (x ||| y))
  | .ixor => xbin pc lo st C rg uc us (fun x y => some (x ^^^ y))
  | .ishl => xbin pc lo st C rg uc us (fun x y => some (x <<< (y &&& 31)))
  | .ishr => xbin pc lo st C rg uc us (fun x y => some (x >>> (y &&& 31)))
  | .iushr => xbin pc lo st C rg uc us (fun x y => some (x.toUInt32 >>> (y.toUInt32 &&& Int32.toUInt32 31)).toInt32)
  | .idiv => xbin pc lo st C rg uc us (fun x y => if y = 0 then none else some (x / y))
  | .irem => xbin pc lo st C rg uc us (fun x y => if y = 0 then none else some (x - x / y * y))
  | .ineg => xun pc lo st C rg uc us (fun x => -x)
  | .i2b => xun pc lo st C rg uc us (fun x => x.toInt8.toInt32)
  | .i2s => xun pc lo st C rg uc us (fun x => x.toInt16.toInt32)
  | .i2c => xun pc lo st C rg uc us (fun x => (x.toUInt32 % 65536).toInt32)
  | .ladd => xbinL pc lo st C rg uc us (fun x y => some (x + y))
  | .lsub => xbinL pc lo st C rg uc us (fun x y => some (x - y))
  | .lmul => xbinL pc lo st C rg uc us (fun x y => some (x * y))
  | .ldiv => xbinL pc lo st C rg uc us (fun x y => if y = 0 then none else some (x / y))
  | .lrem => xbinL pc lo st C rg uc us (fun x y => if y = 0 then none else some (x - x / y * y))
  | .i2l => xi2l pc lo st C rg uc us
  | .l2i => xl2i pc lo st C rg uc us
  | .lcmp => xlcmp pc lo st C rg uc us
  | .if_icmp c off => xicmp pc lo st C rg uc us c off
  | .ifCond c off => xif pc lo st C rg uc us c off
  | .goto off => xjump pc off lo st C rg uc us
  | .iinc i n => xiinc pc lo st C rg uc us mx i n
  | .tableswitch d low hi offs => xtable pc lo st C rg uc us d low hi offs.toList
  | .lookupswitch d ps => xlook pc lo st C rg uc us d ps.toList
  | .dup => xdup pc lo st C rg uc us
  | .dup2 => xdup2 pc lo st C rg uc us
  | .pop => xpop1 pc lo st C rg uc us
  | .getfield idx => xget pc lo st C rg uc us own idx
  | .putfield idx => xput pc lo st C rg uc us kd own idx
  | .getstatic idx => xgets pc lo st C rg uc us own idx
  | .iaload => xald pc lo st C rg uc us 100 xisI
  | .baload => xbald pc lo st C rg uc us
  | .aaload => xaldq pc lo st C rg uc us
  | .iastore => xast pc lo st C rg uc us 100
  | .bastore => xast pc lo st C rg uc us 101
  | .aastore => xastq pc lo st C rg uc us
  | .arraylength => xalen pc lo st C rg uc us
  | .new idx => xnew pc lo st C rg uc us mc ms own idx
  | .newarray .int => xnewa pc lo st C rg uc us mc ms 100
  | .newarray .boolean => xnewa pc lo st C rg uc us mc ms 101
  | .anewarray idx => xnewq pc lo st C rg uc us mc ms own idx
  | .multianewarray idx 2 => xnew2 pc lo st C rg uc us mc ms own idx
  | .invokestatic idx => xspec pc lo st C rg uc us 0 own idx (xcall pc lo st C rg uc us call mc ms 0)
  | .invokevirtual idx => xspec pc lo st C rg uc us 1 own idx (xcall pc lo st C rg uc us call mc ms 1)
  | .invokespecial idx => xspec pc lo st C rg uc us 2 own idx (xcall pc lo st C rg uc us call mc ms 2)
  | .ireturn => if rk = 2 then none else xret st C rg uc us mc ms rk
  | .lreturn => if rk = 2 then xret st C rg uc us mc ms rk else none
  | .return_ => if rk = 0 ∧ uc = mc ∧ us ≤ ms then (match st with
    | [] => some (.inr (.inl (none, C, rg)))
    | _ => none) else none
  | _ => none
def xfetch (tb : xTb) (pc : Nat) : Option (Instr × Nat) := match xnth tb (pc / 8) with
  | some l => (match xnth l (pc % 8) with
    | some e => if e.2 = 0 then none else some e
    | none => none)
  | none => none
def xstep (call : Nat → List Value → List xCel → xRG → Option (List xLf)) (mi : xMI) : xFr → xRes
  | (pc, lo, st, C, rg, uc, us) => xfN pc fun pc => match mi with
    | (_, _, own, _, mx, rk, kd, mc, ms, tb) => (match xfetch tb pc with
      | some (I, len) => xstepI call own mx rk kd mc ms I len pc lo st C rg uc us
      | none => none)
def xall (g : xFr → Option (List xLf)) : List xFr → Option (List xLf)
  | [] => some []
  | f :: fs => (match g f with
    | none => none
    | some a => (match xall g fs with
      | none => none
      | some b => some (a ++ b)))
def xrun (call : Nat → List Value → List xCel → xRG → Option (List xLf)) (mi : xMI) : Nat → xFr → Option (List xLf)
  | 0, _ => none
  | k + 1, f => (match xstep call mi f with
    | none => none
    | some (.inl f') => xrun call mi k f'
    | some (.inr (.inl r)) => some [r]
    | some (.inr (.inr fs)) => xall (xrun call mi k) fs)
def xwid : List Value → Nat
  | [] => 0
  | v :: vs => (if xc2 v then 2 else 1) + xwid vs
/-- the locals with which a method begins -/
def xlocs : Nat → List Value → List (Option Value)
  | n, [] => List.replicate n none
  | n, v :: vs => if xc2 v then some v :: none :: xlocs (n - 2) vs else some v :: xlocs (n - 1) vs
def xexec (k : Nat) : Nat → Nat → List Value → List xCel → xRG → Option (List xLf)
  | 0 => fun _ _ _ _ => none
  | d + 1 => fun j as C rg => match xmi j with
    | some mi => if xwid as ≤ mi.2.2.2.2.1 then xrun (xexec k d) mi k (0, xlocs mi.2.2.2.2.1 as, ([] : List Value), C, rg, 0, 0) else none
    | none => none
end
section
/-! that the tables are the class files', by program -/
def xrt (rk : Nat) : Option FieldType := match rk with
  | 1 => some .int
  | 2 => some .long
  | 3 => some .boolean
  | 4 => some .byte
  | 5 => some .char
  | _ => none
theorem kr_1 : ∀ w ∈ wsL_law_r1, w ∈ wsL_law := fun _ h => List.mem_append_left _ (List.mem_append_left _ (List.mem_append_left _ (List.mem_append_left _ (List.mem_append_left _ (List.mem_append_left _ (List.mem_append_left _ (List.mem_append_left _ (List.mem_append_left _ (List.mem_append_left _ h)))))))))
theorem kr_2 : ∀ w ∈ wsL_law_r2, w ∈ wsL_law := fun _ h => List.mem_append_left _ (List.mem_append_left _ (List.mem_append_left _ (List.mem_append_left _ (List.mem_append_left _ (List.mem_append_left _ (List.mem_append_left _ (List.mem_append_left _ (List.mem_append_left _ (List.mem_append_right _ (List.mem_append_left _ h))))))))))
theorem kr_3 : ∀ w ∈ wsL_law_r3, w ∈ wsL_law := fun _ h => List.mem_append_left _ (List.mem_append_left _ (List.mem_append_left _ (List.mem_append_left _ (List.mem_append_left _ (List.mem_append_left _ (List.mem_append_left _ (List.mem_append_left _ (List.mem_append_left _ (List.mem_append_right _ (List.mem_append_right _ (List.mem_append_left _ h)))))))))))
theorem kr_4 : ∀ w ∈ wsL_law_r4, w ∈ wsL_law := fun _ h => List.mem_append_left _ (List.mem_append_left _ (List.mem_append_left _ (List.mem_append_left _ (List.mem_append_left _ (List.mem_append_left _ (List.mem_append_left _ (List.mem_append_left _ (List.mem_append_left _ (List.mem_append_right _ (List.mem_append_right _ (List.mem_append_right _ (List.mem_append_left _ h))))))))))))
theorem kr_5 : ∀ w ∈ wsL_law_r5, w ∈ wsL_law := fun _ h => List.mem_append_left _ (List.mem_append_left _ (List.mem_append_left _ (List.mem_append_left _ (List.mem_append_left _ (List.mem_append_left _ (List.mem_append_left _ (List.mem_append_left _ (List.mem_append_left _ (List.mem_append_right _ (List.mem_append_right _ (List.mem_append_right _ (List.mem_append_right _ (List.mem_append_left _ h)))))))))))))
theorem kr_6 : ∀ w ∈ wsL_law_r6, w ∈ wsL_law := fun _ h => List.mem_append_left _ (List.mem_append_left _ (List.mem_append_left _ (List.mem_append_left _ (List.mem_append_left _ (List.mem_append_left _ (List.mem_append_left _ (List.mem_append_left _ (List.mem_append_left _ (List.mem_append_right _ (List.mem_append_right _ (List.mem_append_right _ (List.mem_append_right _ (List.mem_append_right _ (List.mem_append_left _ h))))))))))))))
theorem kr_7 : ∀ w ∈ wsL_law_r7, w ∈ wsL_law := fun _ h => List.mem_append_left _ (List.mem_append_left _ (List.mem_append_left _ (List.mem_append_left _ (List.mem_append_left _ (List.mem_append_left _ (List.mem_append_left _ (List.mem_append_left _ (List.mem_append_left _ (List.mem_append_right _ (List.mem_append_right _ (List.mem_append_right _ (List.mem_append_right _ (List.mem_append_right _ (List.mem_append_right _ (List.mem_append_left _ h)))))))))))))))
theorem kr_8 : ∀ w ∈ wsL_law_r8, w ∈ wsL_law := fun _ h => List.mem_append_left _ (List.mem_append_left _ (List.mem_append_left _ (List.mem_append_left _ (List.mem_append_left _ (List.mem_append_left _ (List.mem_append_left _ (List.mem_append_left _ (List.mem_append_left _ (List.mem_append_right _ (List.mem_append_right _ (List.mem_append_right _ (List.mem_append_right _ (List.mem_append_right _ (List.mem_append_right _ (List.mem_append_right _ (List.mem_append_left _ h))))))))))))))))
theorem kr_9 : ∀ w ∈ wsL_law_r9, w ∈ wsL_law := fun _ h => List.mem_append_left _ (List.mem_append_left _ (List.mem_append_left _ (List.mem_append_left _ (List.mem_append_left _ (List.mem_append_left _ (List.mem_append_left _ (List.mem_append_left _ (List.mem_append_left _ (List.mem_append_right _ (List.mem_append_right _ (List.mem_append_right _ (List.mem_append_right _ (List.mem_append_right _ (List.mem_append_right _ (List.mem_append_right _ (List.mem_append_right _ (List.mem_append_left _ h)))))))))))))))))
theorem kr_10 : ∀ w ∈ wsL_law_r10, w ∈ wsL_law := fun _ h => List.mem_append_left _ (List.mem_append_left _ (List.mem_append_left _ (List.mem_append_left _ (List.mem_append_left _ (List.mem_append_left _ (List.mem_append_left _ (List.mem_append_left _ (List.mem_append_left _ (List.mem_append_right _ (List.mem_append_right _ (List.mem_append_right _ (List.mem_append_right _ (List.mem_append_right _ (List.mem_append_right _ (List.mem_append_right _ (List.mem_append_right _ (List.mem_append_right _ (List.mem_append_left _ h))))))))))))))))))
theorem kr_11 : ∀ w ∈ wsL_law_r11, w ∈ wsL_law := fun _ h => List.mem_append_left _ (List.mem_append_left _ (List.mem_append_left _ (List.mem_append_left _ (List.mem_append_left _ (List.mem_append_left _ (List.mem_append_left _ (List.mem_append_left _ (List.mem_append_left _ (List.mem_append_right _ (List.mem_append_right _ (List.mem_append_right _ (List.mem_append_right _ (List.mem_append_right _ (List.mem_append_right _ (List.mem_append_right _ (List.mem_append_right _ (List.mem_append_right _ (List.mem_append_right _ (List.mem_append_left _ h)))))))))))))))))))
theorem kr_12 : ∀ w ∈ wsL_law_r12, w ∈ wsL_law := fun _ h => List.mem_append_left _ (List.mem_append_left _ (List.mem_append_left _ (List.mem_append_left _ (List.mem_append_left _ (List.mem_append_left _ (List.mem_append_left _ (List.mem_append_left _ (List.mem_append_left _ (List.mem_append_right _ (List.mem_append_right _ (List.mem_append_right _ (List.mem_append_right _ (List.mem_append_right _ (List.mem_append_right _ (List.mem_append_right _ (List.mem_append_right _ (List.mem_append_right _ (List.mem_append_right _ (List.mem_append_right _ (List.mem_append_left _ h))))))))))))))))))))
theorem kr_13 : ∀ w ∈ wsL_law_r13, w ∈ wsL_law := fun _ h => List.mem_append_left _ (List.mem_append_left _ (List.mem_append_left _ (List.mem_append_left _ (List.mem_append_left _ (List.mem_append_left _ (List.mem_append_left _ (List.mem_append_left _ (List.mem_append_left _ (List.mem_append_right _ (List.mem_append_right _ (List.mem_append_right _ (List.mem_append_right _ (List.mem_append_right _ (List.mem_append_right _ (List.mem_append_right _ (List.mem_append_right _ (List.mem_append_right _ (List.mem_append_right _ (List.mem_append_right _ (List.mem_append_right _ (List.mem_append_left _ h)))))))))))))))))))))
theorem kr_14 : ∀ w ∈ wsL_law_r14, w ∈ wsL_law := fun _ h => List.mem_append_left _ (List.mem_append_left _ (List.mem_append_left _ (List.mem_append_left _ (List.mem_append_left _ (List.mem_append_left _ (List.mem_append_left _ (List.mem_append_left _ (List.mem_append_left _ (List.mem_append_right _ (List.mem_append_right _ (List.mem_append_right _ (List.mem_append_right _ (List.mem_append_right _ (List.mem_append_right _ (List.mem_append_right _ (List.mem_append_right _ (List.mem_append_right _ (List.mem_append_right _ (List.mem_append_right _ (List.mem_append_right _ (List.mem_append_right _ (List.mem_append_left _ h))))))))))))))))))))))
theorem kr_15 : ∀ w ∈ wsL_law_r15, w ∈ wsL_law := fun _ h => List.mem_append_left _ (List.mem_append_left _ (List.mem_append_left _ (List.mem_append_left _ (List.mem_append_left _ (List.mem_append_left _ (List.mem_append_left _ (List.mem_append_left _ (List.mem_append_left _ (List.mem_append_right _ (List.mem_append_right _ (List.mem_append_right _ (List.mem_append_right _ (List.mem_append_right _ (List.mem_append_right _ (List.mem_append_right _ (List.mem_append_right _ (List.mem_append_right _ (List.mem_append_right _ (List.mem_append_right _ (List.mem_append_right _ (List.mem_append_right _ (List.mem_append_right _ (List.mem_append_left _ h)))))))))))))))))))))))
theorem kr_16 : ∀ w ∈ wsL_law_r16, w ∈ wsL_law := fun _ h => List.mem_append_left _ (List.mem_append_left _ (List.mem_append_left _ (List.mem_append_left _ (List.mem_append_left _ (List.mem_append_left _ (List.mem_append_left _ (List.mem_append_left _ (List.mem_append_left _ (List.mem_append_right _ (List.mem_append_right _ (List.mem_append_right _ (List.mem_append_right _ (List.mem_append_right _ (List.mem_append_right _ (List.mem_append_right _ (List.mem_append_right _ (List.mem_append_right _ (List.mem_append_right _ (List.mem_append_right _ (List.mem_append_right _ (List.mem_append_right _ (List.mem_append_right _ (List.mem_append_right _ (List.mem_append_left _ h))))))))))))))))))))))))
theorem kr_17 : ∀ w ∈ wsL_law_r17, w ∈ wsL_law := fun _ h => List.mem_append_left _ (List.mem_append_left _ (List.mem_append_left _ (List.mem_append_left _ (List.mem_append_left _ (List.mem_append_left _ (List.mem_append_left _ (List.mem_append_left _ (List.mem_append_left _ (List.mem_append_right _ (List.mem_append_right _ (List.mem_append_right _ (List.mem_append_right _ (List.mem_append_right _ (List.mem_append_right _ (List.mem_append_right _ (List.mem_append_right _ (List.mem_append_right _ (List.mem_append_right _ (List.mem_append_right _ (List.mem_append_right _ (List.mem_append_right _ (List.mem_append_right _ (List.mem_append_right _ (List.mem_append_right _ (List.mem_append_left _ h)))))))))))))))))))))))))
theorem kr_18 : ∀ w ∈ wsL_law_r18, w ∈ wsL_law := fun _ h => List.mem_append_left _ (List.mem_append_left _ (List.mem_append_left _ (List.mem_append_left _ (List.mem_append_left _ (List.mem_append_left _ (List.mem_append_left _ (List.mem_append_left _ (List.mem_append_left _ (List.mem_append_right _ (List.mem_append_right _ (List.mem_append_right _ (List.mem_append_right _ (List.mem_append_right _ (List.mem_append_right _ (List.mem_append_right _ (List.mem_append_right _ (List.mem_append_right _ (List.mem_append_right _ (List.mem_append_right _ (List.mem_append_right _ (List.mem_append_right _ (List.mem_append_right _ (List.mem_append_right _ (List.mem_append_right _ (List.mem_append_right _ (List.mem_append_left _ h))))))))))))))))))))))))))
theorem kr_19 : ∀ w ∈ wsL_law_r19, w ∈ wsL_law := fun _ h => List.mem_append_left _ (List.mem_append_left _ (List.mem_append_left _ (List.mem_append_left _ (List.mem_append_left _ (List.mem_append_left _ (List.mem_append_left _ (List.mem_append_left _ (List.mem_append_left _ (List.mem_append_right _ (List.mem_append_right _ (List.mem_append_right _ (List.mem_append_right _ (List.mem_append_right _ (List.mem_append_right _ (List.mem_append_right _ (List.mem_append_right _ (List.mem_append_right _ (List.mem_append_right _ (List.mem_append_right _ (List.mem_append_right _ (List.mem_append_right _ (List.mem_append_right _ (List.mem_append_right _ (List.mem_append_right _ (List.mem_append_right _ (List.mem_append_right _ (List.mem_append_left _ h)))))))))))))))))))))))))))
theorem kr_20 : ∀ w ∈ wsL_law_r20, w ∈ wsL_law := fun _ h => List.mem_append_left _ (List.mem_append_left _ (List.mem_append_left _ (List.mem_append_left _ (List.mem_append_left _ (List.mem_append_left _ (List.mem_append_left _ (List.mem_append_left _ (List.mem_append_left _ (List.mem_append_right _ (List.mem_append_right _ (List.mem_append_right _ (List.mem_append_right _ (List.mem_append_right _ (List.mem_append_right _ (List.mem_append_right _ (List.mem_append_right _ (List.mem_append_right _ (List.mem_append_right _ (List.mem_append_right _ (List.mem_append_right _ (List.mem_append_right _ (List.mem_append_right _ (List.mem_append_right _ (List.mem_append_right _ (List.mem_append_right _ (List.mem_append_right _ (List.mem_append_right _ (List.mem_append_left _ h))))))))))))))))))))))))))))
theorem kr_21 : ∀ w ∈ wsL_law_r21, w ∈ wsL_law := fun _ h => List.mem_append_left _ (List.mem_append_left _ (List.mem_append_left _ (List.mem_append_left _ (List.mem_append_left _ (List.mem_append_left _ (List.mem_append_left _ (List.mem_append_left _ (List.mem_append_left _ (List.mem_append_right _ (List.mem_append_right _ (List.mem_append_right _ (List.mem_append_right _ (List.mem_append_right _ (List.mem_append_right _ (List.mem_append_right _ (List.mem_append_right _ (List.mem_append_right _ (List.mem_append_right _ (List.mem_append_right _ (List.mem_append_right _ (List.mem_append_right _ (List.mem_append_right _ (List.mem_append_right _ (List.mem_append_right _ (List.mem_append_right _ (List.mem_append_right _ (List.mem_append_right _ (List.mem_append_right _ (List.mem_append_left _ h)))))))))))))))))))))))))))))
theorem kr_22 : ∀ w ∈ wsL_law_r22, w ∈ wsL_law := fun _ h => List.mem_append_left _ (List.mem_append_left _ (List.mem_append_left _ (List.mem_append_left _ (List.mem_append_left _ (List.mem_append_left _ (List.mem_append_left _ (List.mem_append_left _ (List.mem_append_left _ (List.mem_append_right _ (List.mem_append_right _ (List.mem_append_right _ (List.mem_append_right _ (List.mem_append_right _ (List.mem_append_right _ (List.mem_append_right _ (List.mem_append_right _ (List.mem_append_right _ (List.mem_append_right _ (List.mem_append_right _ (List.mem_append_right _ (List.mem_append_right _ (List.mem_append_right _ (List.mem_append_right _ (List.mem_append_right _ (List.mem_append_right _ (List.mem_append_right _ (List.mem_append_right _ (List.mem_append_right _ (List.mem_append_right _ (List.mem_append_left _ h))))))))))))))))))))))))))))))
theorem kr_23 : ∀ w ∈ wsL_law_r23, w ∈ wsL_law := fun _ h => List.mem_append_left _ (List.mem_append_left _ (List.mem_append_left _ (List.mem_append_left _ (List.mem_append_left _ (List.mem_append_left _ (List.mem_append_left _ (List.mem_append_left _ (List.mem_append_left _ (List.mem_append_right _ (List.mem_append_right _ (List.mem_append_right _ (List.mem_append_right _ (List.mem_append_right _ (List.mem_append_right _ (List.mem_append_right _ (List.mem_append_right _ (List.mem_append_right _ (List.mem_append_right _ (List.mem_append_right _ (List.mem_append_right _ (List.mem_append_right _ (List.mem_append_right _ (List.mem_append_right _ (List.mem_append_right _ (List.mem_append_right _ (List.mem_append_right _ (List.mem_append_right _ (List.mem_append_right _ (List.mem_append_right _ (List.mem_append_right _ (List.mem_append_left _ h)))))))))))))))))))))))))))))))
theorem kr_24 : ∀ w ∈ wsL_law_r24, w ∈ wsL_law := fun _ h => List.mem_append_left _ (List.mem_append_left _ (List.mem_append_left _ (List.mem_append_left _ (List.mem_append_left _ (List.mem_append_left _ (List.mem_append_left _ (List.mem_append_left _ (List.mem_append_left _ (List.mem_append_right _ (List.mem_append_right _ (List.mem_append_right _ (List.mem_append_right _ (List.mem_append_right _ (List.mem_append_right _ (List.mem_append_right _ (List.mem_append_right _ (List.mem_append_right _ (List.mem_append_right _ (List.mem_append_right _ (List.mem_append_right _ (List.mem_append_right _ (List.mem_append_right _ (List.mem_append_right _ (List.mem_append_right _ (List.mem_append_right _ (List.mem_append_right _ (List.mem_append_right _ (List.mem_append_right _ (List.mem_append_right _ (List.mem_append_right _ (List.mem_append_right _ (List.mem_append_left _ h))))))))))))))))))))))))))))))))
theorem kr_25 : ∀ w ∈ wsL_law_r25, w ∈ wsL_law := fun _ h => List.mem_append_left _ (List.mem_append_left _ (List.mem_append_left _ (List.mem_append_left _ (List.mem_append_left _ (List.mem_append_left _ (List.mem_append_left _ (List.mem_append_left _ (List.mem_append_left _ (List.mem_append_right _ (List.mem_append_right _ (List.mem_append_right _ (List.mem_append_right _ (List.mem_append_right _ (List.mem_append_right _ (List.mem_append_right _ (List.mem_append_right _ (List.mem_append_right _ (List.mem_append_right _ (List.mem_append_right _ (List.mem_append_right _ (List.mem_append_right _ (List.mem_append_right _ (List.mem_append_right _ (List.mem_append_right _ (List.mem_append_right _ (List.mem_append_right _ (List.mem_append_right _ (List.mem_append_right _ (List.mem_append_right _ (List.mem_append_right _ (List.mem_append_right _ (List.mem_append_right _ (List.mem_append_left _ h)))))))))))))))))))))))))))))))))
theorem kr_26 : ∀ w ∈ wsL_law_r26, w ∈ wsL_law := fun _ h => List.mem_append_left _ (List.mem_append_left _ (List.mem_append_left _ (List.mem_append_left _ (List.mem_append_left _ (List.mem_append_left _ (List.mem_append_left _ (List.mem_append_left _ (List.mem_append_left _ (List.mem_append_right _ (List.mem_append_right _ (List.mem_append_right _ (List.mem_append_right _ (List.mem_append_right _ (List.mem_append_right _ (List.mem_append_right _ (List.mem_append_right _ (List.mem_append_right _ (List.mem_append_right _ (List.mem_append_right _ (List.mem_append_right _ (List.mem_append_right _ (List.mem_append_right _ (List.mem_append_right _ (List.mem_append_right _ (List.mem_append_right _ (List.mem_append_right _ (List.mem_append_right _ (List.mem_append_right _ (List.mem_append_right _ (List.mem_append_right _ (List.mem_append_right _ (List.mem_append_right _ (List.mem_append_right _ (List.mem_append_left _ h))))))))))))))))))))))))))))))))))
theorem kr_27 : ∀ w ∈ wsL_law_r27, w ∈ wsL_law := fun _ h => List.mem_append_left _ (List.mem_append_left _ (List.mem_append_left _ (List.mem_append_left _ (List.mem_append_left _ (List.mem_append_left _ (List.mem_append_left _ (List.mem_append_left _ (List.mem_append_left _ (List.mem_append_right _ (List.mem_append_right _ (List.mem_append_right _ (List.mem_append_right _ (List.mem_append_right _ (List.mem_append_right _ (List.mem_append_right _ (List.mem_append_right _ (List.mem_append_right _ (List.mem_append_right _ (List.mem_append_right _ (List.mem_append_right _ (List.mem_append_right _ (List.mem_append_right _ (List.mem_append_right _ (List.mem_append_right _ (List.mem_append_right _ (List.mem_append_right _ (List.mem_append_right _ (List.mem_append_right _ (List.mem_append_right _ (List.mem_append_right _ (List.mem_append_right _ (List.mem_append_right _ (List.mem_append_right _ (List.mem_append_right _ (List.mem_append_left _ h)))))))))))))))))))))))))))))))))))
theorem kr_28 : ∀ w ∈ wsL_law_r28, w ∈ wsL_law := fun _ h => List.mem_append_left _ (List.mem_append_left _ (List.mem_append_left _ (List.mem_append_left _ (List.mem_append_left _ (List.mem_append_left _ (List.mem_append_left _ (List.mem_append_left _ (List.mem_append_left _ (List.mem_append_right _ (List.mem_append_right _ (List.mem_append_right _ (List.mem_append_right _ (List.mem_append_right _ (List.mem_append_right _ (List.mem_append_right _ (List.mem_append_right _ (List.mem_append_right _ (List.mem_append_right _ (List.mem_append_right _ (List.mem_append_right _ (List.mem_append_right _ (List.mem_append_right _ (List.mem_append_right _ (List.mem_append_right _ (List.mem_append_right _ (List.mem_append_right _ (List.mem_append_right _ (List.mem_append_right _ (List.mem_append_right _ (List.mem_append_right _ (List.mem_append_right _ (List.mem_append_right _ (List.mem_append_right _ (List.mem_append_right _ (List.mem_append_right _ (List.mem_append_left _ h))))))))))))))))))))))))))))))))))))
theorem kr_29 : ∀ w ∈ wsL_law_r29, w ∈ wsL_law := fun _ h => List.mem_append_left _ (List.mem_append_left _ (List.mem_append_left _ (List.mem_append_left _ (List.mem_append_left _ (List.mem_append_left _ (List.mem_append_left _ (List.mem_append_left _ (List.mem_append_left _ (List.mem_append_right _ (List.mem_append_right _ (List.mem_append_right _ (List.mem_append_right _ (List.mem_append_right _ (List.mem_append_right _ (List.mem_append_right _ (List.mem_append_right _ (List.mem_append_right _ (List.mem_append_right _ (List.mem_append_right _ (List.mem_append_right _ (List.mem_append_right _ (List.mem_append_right _ (List.mem_append_right _ (List.mem_append_right _ (List.mem_append_right _ (List.mem_append_right _ (List.mem_append_right _ (List.mem_append_right _ (List.mem_append_right _ (List.mem_append_right _ (List.mem_append_right _ (List.mem_append_right _ (List.mem_append_right _ (List.mem_append_right _ (List.mem_append_right _ (List.mem_append_right _ (List.mem_append_left _ h)))))))))))))))))))))))))))))))))))))
theorem kr_30 : ∀ w ∈ wsL_law_r30, w ∈ wsL_law := fun _ h => List.mem_append_left _ (List.mem_append_left _ (List.mem_append_left _ (List.mem_append_left _ (List.mem_append_left _ (List.mem_append_left _ (List.mem_append_left _ (List.mem_append_left _ (List.mem_append_left _ (List.mem_append_right _ (List.mem_append_right _ (List.mem_append_right _ (List.mem_append_right _ (List.mem_append_right _ (List.mem_append_right _ (List.mem_append_right _ (List.mem_append_right _ (List.mem_append_right _ (List.mem_append_right _ (List.mem_append_right _ (List.mem_append_right _ (List.mem_append_right _ (List.mem_append_right _ (List.mem_append_right _ (List.mem_append_right _ (List.mem_append_right _ (List.mem_append_right _ (List.mem_append_right _ (List.mem_append_right _ (List.mem_append_right _ (List.mem_append_right _ (List.mem_append_right _ (List.mem_append_right _ (List.mem_append_right _ (List.mem_append_right _ (List.mem_append_right _ (List.mem_append_right _ (List.mem_append_right _ (List.mem_append_left _ h))))))))))))))))))))))))))))))))))))))
theorem kr_31 : ∀ w ∈ wsL_law_r31, w ∈ wsL_law := fun _ h => List.mem_append_left _ (List.mem_append_left _ (List.mem_append_left _ (List.mem_append_left _ (List.mem_append_left _ (List.mem_append_left _ (List.mem_append_left _ (List.mem_append_left _ (List.mem_append_left _ (List.mem_append_right _ (List.mem_append_right _ (List.mem_append_right _ (List.mem_append_right _ (List.mem_append_right _ (List.mem_append_right _ (List.mem_append_right _ (List.mem_append_right _ (List.mem_append_right _ (List.mem_append_right _ (List.mem_append_right _ (List.mem_append_right _ (List.mem_append_right _ (List.mem_append_right _ (List.mem_append_right _ (List.mem_append_right _ (List.mem_append_right _ (List.mem_append_right _ (List.mem_append_right _ (List.mem_append_right _ (List.mem_append_right _ (List.mem_append_right _ (List.mem_append_right _ (List.mem_append_right _ (List.mem_append_right _ (List.mem_append_right _ (List.mem_append_right _ (List.mem_append_right _ (List.mem_append_right _ (List.mem_append_right _ (List.mem_append_left _ h)))))))))))))))))))))))))))))))))))))))
theorem kr_32 : ∀ w ∈ wsL_law_r32, w ∈ wsL_law := fun _ h => List.mem_append_left _ (List.mem_append_left _ (List.mem_append_left _ (List.mem_append_left _ (List.mem_append_left _ (List.mem_append_left _ (List.mem_append_left _ (List.mem_append_left _ (List.mem_append_left _ (List.mem_append_right _ (List.mem_append_right _ (List.mem_append_right _ (List.mem_append_right _ (List.mem_append_right _ (List.mem_append_right _ (List.mem_append_right _ (List.mem_append_right _ (List.mem_append_right _ (List.mem_append_right _ (List.mem_append_right _ (List.mem_append_right _ (List.mem_append_right _ (List.mem_append_right _ (List.mem_append_right _ (List.mem_append_right _ (List.mem_append_right _ (List.mem_append_right _ (List.mem_append_right _ (List.mem_append_right _ (List.mem_append_right _ (List.mem_append_right _ (List.mem_append_right _ (List.mem_append_right _ (List.mem_append_right _ (List.mem_append_right _ (List.mem_append_right _ (List.mem_append_right _ (List.mem_append_right _ (List.mem_append_right _ (List.mem_append_right _ (List.mem_append_left _ h))))))))))))))))))))))))))))))))))))))))
theorem kr_33 : ∀ w ∈ wsL_law_r33, w ∈ wsL_law := fun _ h => List.mem_append_left _ (List.mem_append_left _ (List.mem_append_left _ (List.mem_append_left _ (List.mem_append_left _ (List.mem_append_left _ (List.mem_append_left _ (List.mem_append_left _ (List.mem_append_left _ (List.mem_append_right _ (List.mem_append_right _ (List.mem_append_right _ (List.mem_append_right _ (List.mem_append_right _ (List.mem_append_right _ (List.mem_append_right _ (List.mem_append_right _ (List.mem_append_right _ (List.mem_append_right _ (List.mem_append_right _ (List.mem_append_right _ (List.mem_append_right _ (List.mem_append_right _ (List.mem_append_right _ (List.mem_append_right _ (List.mem_append_right _ (List.mem_append_right _ (List.mem_append_right _ (List.mem_append_right _ (List.mem_append_right _ (List.mem_append_right _ (List.mem_append_right _ (List.mem_append_right _ (List.mem_append_right _ (List.mem_append_right _ (List.mem_append_right _ (List.mem_append_right _ (List.mem_append_right _ (List.mem_append_right _ (List.mem_append_right _ (List.mem_append_right _ (List.mem_append_left _ h)))))))))))))))))))))))))))))))))))))))))
theorem kr_34 : ∀ w ∈ wsL_law_r34, w ∈ wsL_law := fun _ h => List.mem_append_left _ (List.mem_append_left _ (List.mem_append_left _ (List.mem_append_left _ (List.mem_append_left _ (List.mem_append_left _ (List.mem_append_left _ (List.mem_append_left _ (List.mem_append_left _ (List.mem_append_right _ (List.mem_append_right _ (List.mem_append_right _ (List.mem_append_right _ (List.mem_append_right _ (List.mem_append_right _ (List.mem_append_right _ (List.mem_append_right _ (List.mem_append_right _ (List.mem_append_right _ (List.mem_append_right _ (List.mem_append_right _ (List.mem_append_right _ (List.mem_append_right _ (List.mem_append_right _ (List.mem_append_right _ (List.mem_append_right _ (List.mem_append_right _ (List.mem_append_right _ (List.mem_append_right _ (List.mem_append_right _ (List.mem_append_right _ (List.mem_append_right _ (List.mem_append_right _ (List.mem_append_right _ (List.mem_append_right _ (List.mem_append_right _ (List.mem_append_right _ (List.mem_append_right _ (List.mem_append_right _ (List.mem_append_right _ (List.mem_append_right _ (List.mem_append_right _ (List.mem_append_left _ h))))))))))))))))))))))))))))))))))))))))))
theorem kr_35 : ∀ w ∈ wsL_law_r35, w ∈ wsL_law := fun _ h => List.mem_append_left _ (List.mem_append_left _ (List.mem_append_left _ (List.mem_append_left _ (List.mem_append_left _ (List.mem_append_left _ (List.mem_append_left _ (List.mem_append_left _ (List.mem_append_left _ (List.mem_append_right _ (List.mem_append_right _ (List.mem_append_right _ (List.mem_append_right _ (List.mem_append_right _ (List.mem_append_right _ (List.mem_append_right _ (List.mem_append_right _ (List.mem_append_right _ (List.mem_append_right _ (List.mem_append_right _ (List.mem_append_right _ (List.mem_append_right _ (List.mem_append_right _ (List.mem_append_right _ (List.mem_append_right _ (List.mem_append_right _ (List.mem_append_right _ (List.mem_append_right _ (List.mem_append_right _ (List.mem_append_right _ (List.mem_append_right _ (List.mem_append_right _ (List.mem_append_right _ (List.mem_append_right _ (List.mem_append_right _ (List.mem_append_right _ (List.mem_append_right _ (List.mem_append_right _ (List.mem_append_right _ (List.mem_append_right _ (List.mem_append_right _ (List.mem_append_right _ (List.mem_append_right _ (List.mem_append_left _ h)))))))))))))))))))))))))))))))))))))))))))
theorem kr_36 : ∀ w ∈ wsL_law_r36, w ∈ wsL_law := fun _ h => List.mem_append_left _ (List.mem_append_left _ (List.mem_append_left _ (List.mem_append_left _ (List.mem_append_left _ (List.mem_append_left _ (List.mem_append_left _ (List.mem_append_left _ (List.mem_append_left _ (List.mem_append_right _ (List.mem_append_right _ (List.mem_append_right _ (List.mem_append_right _ (List.mem_append_right _ (List.mem_append_right _ (List.mem_append_right _ (List.mem_append_right _ (List.mem_append_right _ (List.mem_append_right _ (List.mem_append_right _ (List.mem_append_right _ (List.mem_append_right _ (List.mem_append_right _ (List.mem_append_right _ (List.mem_append_right _ (List.mem_append_right _ (List.mem_append_right _ (List.mem_append_right _ (List.mem_append_right _ (List.mem_append_right _ (List.mem_append_right _ (List.mem_append_right _ (List.mem_append_right _ (List.mem_append_right _ (List.mem_append_right _ (List.mem_append_right _ (List.mem_append_right _ (List.mem_append_right _ (List.mem_append_right _ (List.mem_append_right _ (List.mem_append_right _ (List.mem_append_right _ (List.mem_append_right _ (List.mem_append_right _ (List.mem_append_left _ h))))))))))))))))))))))))))))))))))))))))))))
theorem kr_37 : ∀ w ∈ wsL_law_r37, w ∈ wsL_law := fun _ h => List.mem_append_left _ (List.mem_append_left _ (List.mem_append_left _ (List.mem_append_left _ (List.mem_append_left _ (List.mem_append_left _ (List.mem_append_left _ (List.mem_append_left _ (List.mem_append_left _ (List.mem_append_right _ (List.mem_append_right _ (List.mem_append_right _ (List.mem_append_right _ (List.mem_append_right _ (List.mem_append_right _ (List.mem_append_right _ (List.mem_append_right _ (List.mem_append_right _ (List.mem_append_right _ (List.mem_append_right _ (List.mem_append_right _ (List.mem_append_right _ (List.mem_append_right _ (List.mem_append_right _ (List.mem_append_right _ (List.mem_append_right _ (List.mem_append_right _ (List.mem_append_right _ (List.mem_append_right _ (List.mem_append_right _ (List.mem_append_right _ (List.mem_append_right _ (List.mem_append_right _ (List.mem_append_right _ (List.mem_append_right _ (List.mem_append_right _ (List.mem_append_right _ (List.mem_append_right _ (List.mem_append_right _ (List.mem_append_right _ (List.mem_append_right _ (List.mem_append_right _ (List.mem_append_right _ (List.mem_append_right _ (List.mem_append_right _ (List.mem_append_left _ h)))))))))))))))))))))))))))))))))))))))))))))
theorem kr_38 : ∀ w ∈ wsL_law_r38, w ∈ wsL_law := fun _ h => List.mem_append_left _ (List.mem_append_left _ (List.mem_append_left _ (List.mem_append_left _ (List.mem_append_left _ (List.mem_append_left _ (List.mem_append_left _ (List.mem_append_left _ (List.mem_append_left _ (List.mem_append_right _ (List.mem_append_right _ (List.mem_append_right _ (List.mem_append_right _ (List.mem_append_right _ (List.mem_append_right _ (List.mem_append_right _ (List.mem_append_right _ (List.mem_append_right _ (List.mem_append_right _ (List.mem_append_right _ (List.mem_append_right _ (List.mem_append_right _ (List.mem_append_right _ (List.mem_append_right _ (List.mem_append_right _ (List.mem_append_right _ (List.mem_append_right _ (List.mem_append_right _ (List.mem_append_right _ (List.mem_append_right _ (List.mem_append_right _ (List.mem_append_right _ (List.mem_append_right _ (List.mem_append_right _ (List.mem_append_right _ (List.mem_append_right _ (List.mem_append_right _ (List.mem_append_right _ (List.mem_append_right _ (List.mem_append_right _ (List.mem_append_right _ (List.mem_append_right _ (List.mem_append_right _ (List.mem_append_right _ (List.mem_append_right _ (List.mem_append_right _ (List.mem_append_left _ h))))))))))))))))))))))))))))))))))))))))))))))
theorem kr_39 : ∀ w ∈ wsL_law_r39, w ∈ wsL_law := fun _ h => List.mem_append_left _ (List.mem_append_left _ (List.mem_append_left _ (List.mem_append_left _ (List.mem_append_left _ (List.mem_append_left _ (List.mem_append_left _ (List.mem_append_left _ (List.mem_append_left _ (List.mem_append_right _ (List.mem_append_right _ (List.mem_append_right _ (List.mem_append_right _ (List.mem_append_right _ (List.mem_append_right _ (List.mem_append_right _ (List.mem_append_right _ (List.mem_append_right _ (List.mem_append_right _ (List.mem_append_right _ (List.mem_append_right _ (List.mem_append_right _ (List.mem_append_right _ (List.mem_append_right _ (List.mem_append_right _ (List.mem_append_right _ (List.mem_append_right _ (List.mem_append_right _ (List.mem_append_right _ (List.mem_append_right _ (List.mem_append_right _ (List.mem_append_right _ (List.mem_append_right _ (List.mem_append_right _ (List.mem_append_right _ (List.mem_append_right _ (List.mem_append_right _ (List.mem_append_right _ (List.mem_append_right _ (List.mem_append_right _ (List.mem_append_right _ (List.mem_append_right _ (List.mem_append_right _ (List.mem_append_right _ (List.mem_append_right _ (List.mem_append_right _ (List.mem_append_right _ (List.mem_append_left _ h)))))))))))))))))))))))))))))))))))))))))))))))
theorem kr_40 : ∀ w ∈ wsL_law_r40, w ∈ wsL_law := fun _ h => List.mem_append_left _ (List.mem_append_left _ (List.mem_append_left _ (List.mem_append_left _ (List.mem_append_left _ (List.mem_append_left _ (List.mem_append_left _ (List.mem_append_left _ (List.mem_append_left _ (List.mem_append_right _ (List.mem_append_right _ (List.mem_append_right _ (List.mem_append_right _ (List.mem_append_right _ (List.mem_append_right _ (List.mem_append_right _ (List.mem_append_right _ (List.mem_append_right _ (List.mem_append_right _ (List.mem_append_right _ (List.mem_append_right _ (List.mem_append_right _ (List.mem_append_right _ (List.mem_append_right _ (List.mem_append_right _ (List.mem_append_right _ (List.mem_append_right _ (List.mem_append_right _ (List.mem_append_right _ (List.mem_append_right _ (List.mem_append_right _ (List.mem_append_right _ (List.mem_append_right _ (List.mem_append_right _ (List.mem_append_right _ (List.mem_append_right _ (List.mem_append_right _ (List.mem_append_right _ (List.mem_append_right _ (List.mem_append_right _ (List.mem_append_right _ (List.mem_append_right _ (List.mem_append_right _ (List.mem_append_right _ (List.mem_append_right _ (List.mem_append_right _ (List.mem_append_right _ (List.mem_append_right _ (List.mem_append_left _ h))))))))))))))))))))))))))))))))))))))))))))))))
theorem kr_41 : ∀ w ∈ wsL_law_r41, w ∈ wsL_law := fun _ h => List.mem_append_left _ (List.mem_append_left _ (List.mem_append_left _ (List.mem_append_left _ (List.mem_append_left _ (List.mem_append_left _ (List.mem_append_left _ (List.mem_append_left _ (List.mem_append_left _ (List.mem_append_right _ (List.mem_append_right _ (List.mem_append_right _ (List.mem_append_right _ (List.mem_append_right _ (List.mem_append_right _ (List.mem_append_right _ (List.mem_append_right _ (List.mem_append_right _ (List.mem_append_right _ (List.mem_append_right _ (List.mem_append_right _ (List.mem_append_right _ (List.mem_append_right _ (List.mem_append_right _ (List.mem_append_right _ (List.mem_append_right _ (List.mem_append_right _ (List.mem_append_right _ (List.mem_append_right _ (List.mem_append_right _ (List.mem_append_right _ (List.mem_append_right _ (List.mem_append_right _ (List.mem_append_right _ (List.mem_append_right _ (List.mem_append_right _ (List.mem_append_right _ (List.mem_append_right _ (List.mem_append_right _ (List.mem_append_right _ (List.mem_append_right _ (List.mem_append_right _ (List.mem_append_right _ (List.mem_append_right _ (List.mem_append_right _ (List.mem_append_right _ (List.mem_append_right _ (List.mem_append_right _ (List.mem_append_right _ (List.mem_append_left _ h)))))))))))))))))))))))))))))))))))))))))))))))))
theorem kr_42 : ∀ w ∈ wsL_law_r42, w ∈ wsL_law := fun _ h => List.mem_append_left _ (List.mem_append_left _ (List.mem_append_left _ (List.mem_append_left _ (List.mem_append_left _ (List.mem_append_left _ (List.mem_append_left _ (List.mem_append_left _ (List.mem_append_left _ (List.mem_append_right _ (List.mem_append_right _ (List.mem_append_right _ (List.mem_append_right _ (List.mem_append_right _ (List.mem_append_right _ (List.mem_append_right _ (List.mem_append_right _ (List.mem_append_right _ (List.mem_append_right _ (List.mem_append_right _ (List.mem_append_right _ (List.mem_append_right _ (List.mem_append_right _ (List.mem_append_right _ (List.mem_append_right _ (List.mem_append_right _ (List.mem_append_right _ (List.mem_append_right _ (List.mem_append_right _ (List.mem_append_right _ (List.mem_append_right _ (List.mem_append_right _ (List.mem_append_right _ (List.mem_append_right _ (List.mem_append_right _ (List.mem_append_right _ (List.mem_append_right _ (List.mem_append_right _ (List.mem_append_right _ (List.mem_append_right _ (List.mem_append_right _ (List.mem_append_right _ (List.mem_append_right _ (List.mem_append_right _ (List.mem_append_right _ (List.mem_append_right _ (List.mem_append_right _ (List.mem_append_right _ (List.mem_append_right _ (List.mem_append_right _ (List.mem_append_left _ h))))))))))))))))))))))))))))))))))))))))))))))))))
theorem kr_43 : ∀ w ∈ wsL_law_r43, w ∈ wsL_law := fun _ h => List.mem_append_left _ (List.mem_append_left _ (List.mem_append_left _ (List.mem_append_left _ (List.mem_append_left _ (List.mem_append_left _ (List.mem_append_left _ (List.mem_append_left _ (List.mem_append_left _ (List.mem_append_right _ (List.mem_append_right _ (List.mem_append_right _ (List.mem_append_right _ (List.mem_append_right _ (List.mem_append_right _ (List.mem_append_right _ (List.mem_append_right _ (List.mem_append_right _ (List.mem_append_right _ (List.mem_append_right _ (List.mem_append_right _ (List.mem_append_right _ (List.mem_append_right _ (List.mem_append_right _ (List.mem_append_right _ (List.mem_append_right _ (List.mem_append_right _ (List.mem_append_right _ (List.mem_append_right _ (List.mem_append_right _ (List.mem_append_right _ (List.mem_append_right _ (List.mem_append_right _ (List.mem_append_right _ (List.mem_append_right _ (List.mem_append_right _ (List.mem_append_right _ (List.mem_append_right _ (List.mem_append_right _ (List.mem_append_right _ (List.mem_append_right _ (List.mem_append_right _ (List.mem_append_right _ (List.mem_append_right _ (List.mem_append_right _ (List.mem_append_right _ (List.mem_append_right _ (List.mem_append_right _ (List.mem_append_right _ (List.mem_append_right _ (List.mem_append_right _ (List.mem_append_left _ h)))))))))))))))))))))))))))))))))))))))))))))))))))
theorem kr_44 : ∀ w ∈ wsL_law_r44, w ∈ wsL_law := fun _ h => List.mem_append_left _ (List.mem_append_left _ (List.mem_append_left _ (List.mem_append_left _ (List.mem_append_left _ (List.mem_append_left _ (List.mem_append_left _ (List.mem_append_left _ (List.mem_append_left _ (List.mem_append_right _ (List.mem_append_right _ (List.mem_append_right _ (List.mem_append_right _ (List.mem_append_right _ (List.mem_append_right _ (List.mem_append_right _ (List.mem_append_right _ (List.mem_append_right _ (List.mem_append_right _ (List.mem_append_right _ (List.mem_append_right _ (List.mem_append_right _ (List.mem_append_right _ (List.mem_append_right _ (List.mem_append_right _ (List.mem_append_right _ (List.mem_append_right _ (List.mem_append_right _ (List.mem_append_right _ (List.mem_append_right _ (List.mem_append_right _ (List.mem_append_right _ (List.mem_append_right _ (List.mem_append_right _ (List.mem_append_right _ (List.mem_append_right _ (List.mem_append_right _ (List.mem_append_right _ (List.mem_append_right _ (List.mem_append_right _ (List.mem_append_right _ (List.mem_append_right _ (List.mem_append_right _ (List.mem_append_right _ (List.mem_append_right _ (List.mem_append_right _ (List.mem_append_right _ (List.mem_append_right _ (List.mem_append_right _ (List.mem_append_right _ (List.mem_append_right _ (List.mem_append_right _ (List.mem_append_left _ h))))))))))))))))))))))))))))))))))))))))))))))))))))
theorem kr_45 : ∀ w ∈ wsL_law_r45, w ∈ wsL_law := fun _ h => List.mem_append_left _ (List.mem_append_left _ (List.mem_append_left _ (List.mem_append_left _ (List.mem_append_left _ (List.mem_append_left _ (List.mem_append_left _ (List.mem_append_left _ (List.mem_append_left _ (List.mem_append_right _ (List.mem_append_right _ (List.mem_append_right _ (List.mem_append_right _ (List.mem_append_right _ (List.mem_append_right _ (List.mem_append_right _ (List.mem_append_right _ (List.mem_append_right _ (List.mem_append_right _ (List.mem_append_right _ (List.mem_append_right _ (List.mem_append_right _ (List.mem_append_right _ (List.mem_append_right _ (List.mem_append_right _ (List.mem_append_right _ (List.mem_append_right _ (List.mem_append_right _ (List.mem_append_right _ (List.mem_append_right _ (List.mem_append_right _ (List.mem_append_right _ (List.mem_append_right _ (List.mem_append_right _ (List.mem_append_right _ (List.mem_append_right _ (List.mem_append_right _ (List.mem_append_right _ (List.mem_append_right _ (List.mem_append_right _ (List.mem_append_right _ (List.mem_append_right _ (List.mem_append_right _ (List.mem_append_right _ (List.mem_append_right _ (List.mem_append_right _ (List.mem_append_right _ (List.mem_append_right _ (List.mem_append_right _ (List.mem_append_right _ (List.mem_append_right _ (List.mem_append_right _ (List.mem_append_right _ (List.mem_append_left _ h)))))))))))))))))))))))))))))))))))))))))))))))))))))
theorem kr_46 : ∀ w ∈ wsL_law_r46, w ∈ wsL_law := fun _ h => List.mem_append_left _ (List.mem_append_left _ (List.mem_append_left _ (List.mem_append_left _ (List.mem_append_left _ (List.mem_append_left _ (List.mem_append_left _ (List.mem_append_left _ (List.mem_append_left _ (List.mem_append_right _ (List.mem_append_right _ (List.mem_append_right _ (List.mem_append_right _ (List.mem_append_right _ (List.mem_append_right _ (List.mem_append_right _ (List.mem_append_right _ (List.mem_append_right _ (List.mem_append_right _ (List.mem_append_right _ (List.mem_append_right _ (List.mem_append_right _ (List.mem_append_right _ (List.mem_append_right _ (List.mem_append_right _ (List.mem_append_right _ (List.mem_append_right _ (List.mem_append_right _ (List.mem_append_right _ (List.mem_append_right _ (List.mem_append_right _ (List.mem_append_right _ (List.mem_append_right _ (List.mem_append_right _ (List.mem_append_right _ (List.mem_append_right _ (List.mem_append_right _ (List.mem_append_right _ (List.mem_append_right _ (List.mem_append_right _ (List.mem_append_right _ (List.mem_append_right _ (List.mem_append_right _ (List.mem_append_right _ (List.mem_append_right _ (List.mem_append_right _ (List.mem_append_right _ (List.mem_append_right _ (List.mem_append_right _ (List.mem_append_right _ (List.mem_append_right _ (List.mem_append_right _ (List.mem_append_right _ (List.mem_append_right _ (List.mem_append_left _ h))))))))))))))))))))))))))))))))))))))))))))))))))))))
theorem kr_47 : ∀ w ∈ wsL_law_r47, w ∈ wsL_law := fun _ h => List.mem_append_left _ (List.mem_append_left _ (List.mem_append_left _ (List.mem_append_left _ (List.mem_append_left _ (List.mem_append_left _ (List.mem_append_left _ (List.mem_append_left _ (List.mem_append_left _ (List.mem_append_right _ (List.mem_append_right _ (List.mem_append_right _ (List.mem_append_right _ (List.mem_append_right _ (List.mem_append_right _ (List.mem_append_right _ (List.mem_append_right _ (List.mem_append_right _ (List.mem_append_right _ (List.mem_append_right _ (List.mem_append_right _ (List.mem_append_right _ (List.mem_append_right _ (List.mem_append_right _ (List.mem_append_right _ (List.mem_append_right _ (List.mem_append_right _ (List.mem_append_right _ (List.mem_append_right _ (List.mem_append_right _ (List.mem_append_right _ (List.mem_append_right _ (List.mem_append_right _ (List.mem_append_right _ (List.mem_append_right _ (List.mem_append_right _ (List.mem_append_right _ (List.mem_append_right _ (List.mem_append_right _ (List.mem_append_right _ (List.mem_append_right _ (List.mem_append_right _ (List.mem_append_right _ (List.mem_append_right _ (List.mem_append_right _ (List.mem_append_right _ (List.mem_append_right _ (List.mem_append_right _ (List.mem_append_right _ (List.mem_append_right _ (List.mem_append_right _ (List.mem_append_right _ (List.mem_append_right _ (List.mem_append_right _ (List.mem_append_right _ (List.mem_append_left _ h)))))))))))))))))))))))))))))))))))))))))))))))))))))))
theorem kr_48 : ∀ w ∈ wsL_law_r48, w ∈ wsL_law := fun _ h => List.mem_append_left _ (List.mem_append_left _ (List.mem_append_left _ (List.mem_append_left _ (List.mem_append_left _ (List.mem_append_left _ (List.mem_append_left _ (List.mem_append_left _ (List.mem_append_left _ (List.mem_append_right _ (List.mem_append_right _ (List.mem_append_right _ (List.mem_append_right _ (List.mem_append_right _ (List.mem_append_right _ (List.mem_append_right _ (List.mem_append_right _ (List.mem_append_right _ (List.mem_append_right _ (List.mem_append_right _ (List.mem_append_right _ (List.mem_append_right _ (List.mem_append_right _ (List.mem_append_right _ (List.mem_append_right _ (List.mem_append_right _ (List.mem_append_right _ (List.mem_append_right _ (List.mem_append_right _ (List.mem_append_right _ (List.mem_append_right _ (List.mem_append_right _ (List.mem_append_right _ (List.mem_append_right _ (List.mem_append_right _ (List.mem_append_right _ (List.mem_append_right _ (List.mem_append_right _ (List.mem_append_right _ (List.mem_append_right _ (List.mem_append_right _ (List.mem_append_right _ (List.mem_append_right _ (List.mem_append_right _ (List.mem_append_right _ (List.mem_append_right _ (List.mem_append_right _ (List.mem_append_right _ (List.mem_append_right _ (List.mem_append_right _ (List.mem_append_right _ (List.mem_append_right _ (List.mem_append_right _ (List.mem_append_right _ (List.mem_append_right _ (List.mem_append_right _ (List.mem_append_left _ h))))))))))))))))))))))))))))))))))))))))))))))))))))))))
theorem kr_49 : ∀ w ∈ wsL_law_r49, w ∈ wsL_law := fun _ h => List.mem_append_left _ (List.mem_append_left _ (List.mem_append_left _ (List.mem_append_left _ (List.mem_append_left _ (List.mem_append_left _ (List.mem_append_left _ (List.mem_append_left _ (List.mem_append_left _ (List.mem_append_right _ (List.mem_append_right _ (List.mem_append_right _ (List.mem_append_right _ (List.mem_append_right _ (List.mem_append_right _ (List.mem_append_right _ (List.mem_append_right _ (List.mem_append_right _ (List.mem_append_right _ (List.mem_append_right _ (List.mem_append_right _ (List.mem_append_right _ (List.mem_append_right _ (List.mem_append_right _ (List.mem_append_right _ (List.mem_append_right _ (List.mem_append_right _ (List.mem_append_right _ (List.mem_append_right _ (List.mem_append_right _ (List.mem_append_right _ (List.mem_append_right _ (List.mem_append_right _ (List.mem_append_right _ (List.mem_append_right _ (List.mem_append_right _ (List.mem_append_right _ (List.mem_append_right _ (List.mem_append_right _ (List.mem_append_right _ (List.mem_append_right _ (List.mem_append_right _ (List.mem_append_right _ (List.mem_append_right _ (List.mem_append_right _ (List.mem_append_right _ (List.mem_append_right _ (List.mem_append_right _ (List.mem_append_right _ (List.mem_append_right _ (List.mem_append_right _ (List.mem_append_right _ (List.mem_append_right _ (List.mem_append_right _ (List.mem_append_right _ (List.mem_append_right _ (List.mem_append_right _ (h)))))))))))))))))))))))))))))))))))))))))))))))))))))))))
theorem kw_1_2 : Cond.initialized RX6 ∈ wsL_law := kr_1 _ (List.mem_of_getElem? (i := 2) rfl)
theorem kw_1_5 : Cond.initialized RX7 ∈ wsL_law := kr_1 _ (List.mem_of_getElem? (i := 5) rfl)
theorem kw_1_7 : Cond.instanceMethod yX6_init ∈ wsL_law := kr_1 _ (List.mem_of_getElem? (i := 7) rfl)
theorem kw_1_8 : Cond.code yX6_init cX6_init 2 none ∈ wsL_law := kr_1 _ (List.mem_of_getElem? (i := 8) rfl)
theorem kw_1_9 : Cond.methodLink RX6 1 objectInit ∈ wsL_law := kr_1 _ (List.mem_of_getElem? (i := 9) rfl)
theorem kw_1_10 : Cond.instanceMethod objectInit ∈ wsL_law := kr_1 _ (List.mem_of_getElem? (i := 10) rfl)
theorem kw_1_11 : Cond.code objectInit ⟨#[0xb1]⟩ 1 none ∈ wsL_law := kr_1 _ (List.mem_of_getElem? (i := 11) rfl)
theorem kw_1_12 : Cond.classLink RX6 7 RX4 ∈ wsL_law := kr_1 _ (List.mem_of_getElem? (i := 12) rfl)
theorem kw_1_13 : Cond.instantiable RX4 6 ∈ wsL_law := kr_1 _ (List.mem_of_getElem? (i := 13) rfl)
theorem kw_1_14 : Cond.initialized RX4 ∈ wsL_law := kr_1 _ (List.mem_of_getElem? (i := 14) rfl)
theorem kw_1_15 : Cond.fieldLink RX6 10 "StreetTillTen" "tape" "LStreetTillTen$Tape;" ∈ wsL_law := kr_1 _ (List.mem_of_getElem? (i := 15) rfl)
theorem kw_1_16 : Cond.classLink RX6 16 RX5 ∈ wsL_law := kr_1 _ (List.mem_of_getElem? (i := 16) rfl)
theorem kw_1_17 : Cond.fieldLink RX6 18 "StreetTillTen" "texts" "[LStreetTillTen$Text;" ∈ wsL_law := kr_1 _ (List.mem_of_getElem? (i := 17) rfl)
theorem kw_1_18 : Cond.classLink RX6 22 RX0 ∈ wsL_law := kr_1 _ (List.mem_of_getElem? (i := 18) rfl)
theorem kw_1_19 : Cond.instantiable RX0 2 ∈ wsL_law := kr_1 _ (List.mem_of_getElem? (i := 19) rfl)
theorem kw_1_20 : Cond.initialized RX0 ∈ wsL_law := kr_1 _ (List.mem_of_getElem? (i := 20) rfl)
theorem kw_1_21 : Cond.fieldLink RX6 25 "StreetTillTen" "circle" "LStreetTillTen$Circle;" ∈ wsL_law := kr_1 _ (List.mem_of_getElem? (i := 21) rfl)
theorem kw_1_22 : Cond.classLink RX6 29 RX2 ∈ wsL_law := kr_1 _ (List.mem_of_getElem? (i := 22) rfl)
theorem kw_1_23 : Cond.fieldLink RX6 31 "StreetTillTen" "sheets" "[LStreetTillTen$Sheet;" ∈ wsL_law := kr_1 _ (List.mem_of_getElem? (i := 23) rfl)
theorem kw_2_0 : Cond.instantiable RX5 5 ∈ wsL_law := kr_2 _ (List.mem_of_getElem? (i := 0) rfl)
theorem kw_2_1 : Cond.initialized RX5 ∈ wsL_law := kr_2 _ (List.mem_of_getElem? (i := 1) rfl)
theorem kw_2_2 : Cond.instantiable RX2 3 ∈ wsL_law := kr_2 _ (List.mem_of_getElem? (i := 2) rfl)
theorem kw_2_3 : Cond.initialized RX2 ∈ wsL_law := kr_2 _ (List.mem_of_getElem? (i := 3) rfl)
theorem kw_2_4 : Cond.classLink RX6 55 RX1 ∈ wsL_law := kr_2 _ (List.mem_of_getElem? (i := 4) rfl)
theorem kw_2_5 : Cond.instantiable RX1 5 ∈ wsL_law := kr_2 _ (List.mem_of_getElem? (i := 5) rfl)
theorem kw_2_6 : Cond.initialized RX1 ∈ wsL_law := kr_2 _ (List.mem_of_getElem? (i := 6) rfl)
theorem kw_2_7 : Cond.fieldLink RX6 60 "StreetTillTen" "reader" "LStreetTillTen$Reader;" ∈ wsL_law := kr_2 _ (List.mem_of_getElem? (i := 7) rfl)
theorem kw_2_8 : Cond.fieldLink RX6 71 "StreetTillTen" "textCount" "I" ∈ wsL_law := kr_2 _ (List.mem_of_getElem? (i := 8) rfl)
theorem kw_2_9 : Cond.classLink RX6 75 RX3 ∈ wsL_law := kr_2 _ (List.mem_of_getElem? (i := 9) rfl)
theorem kw_2_10 : Cond.instantiable RX3 9 ∈ wsL_law := kr_2 _ (List.mem_of_getElem? (i := 10) rfl)
theorem kw_2_11 : Cond.initialized RX3 ∈ wsL_law := kr_2 _ (List.mem_of_getElem? (i := 11) rfl)
theorem kw_2_12 : Cond.fieldLink RX6 80 "StreetTillTen" "now" "LStreetTillTen$Street;" ∈ wsL_law := kr_2 _ (List.mem_of_getElem? (i := 12) rfl)
theorem kw_2_13 : Cond.fieldLink RX6 84 "StreetTillTen" "thought" "LStreetTillTen$Street;" ∈ wsL_law := kr_2 _ (List.mem_of_getElem? (i := 13) rfl)
theorem kw_2_14 : Cond.fieldLink RX6 87 "StreetTillTen" "kept" "LStreetTillTen$Street;" ∈ wsL_law := kr_2 _ (List.mem_of_getElem? (i := 14) rfl)
theorem kw_2_15 : Cond.instanceMethod yX4_init ∈ wsL_law := kr_2 _ (List.mem_of_getElem? (i := 15) rfl)
theorem kw_2_16 : Cond.code yX4_init cX4_init 1 none ∈ wsL_law := kr_2 _ (List.mem_of_getElem? (i := 16) rfl)
theorem kw_2_17 : Cond.methodLink RX4 3 objectInit ∈ wsL_law := kr_2 _ (List.mem_of_getElem? (i := 17) rfl)
theorem kw_2_18 : Cond.arrayClass .int ∈ wsL_law := kr_2 _ (List.mem_of_getElem? (i := 18) rfl)
theorem kw_2_19 : Cond.fieldLink RX4 11 "StreetTillTen$Tape" "tokens" "[I" ∈ wsL_law := kr_2 _ (List.mem_of_getElem? (i := 19) rfl)
theorem kw_2_20 : Cond.fieldLink RX4 15 "StreetTillTen$Tape" "starts" "[I" ∈ wsL_law := kr_2 _ (List.mem_of_getElem? (i := 20) rfl)
theorem kw_2_21 : Cond.fieldLink RX4 18 "StreetTillTen$Tape" "steps" "[I" ∈ wsL_law := kr_2 _ (List.mem_of_getElem? (i := 21) rfl)
theorem kw_2_22 : Cond.fieldLink RX4 21 "StreetTillTen$Tape" "letters" "[I" ∈ wsL_law := kr_2 _ (List.mem_of_getElem? (i := 22) rfl)
theorem kw_2_23 : Cond.instanceMethod yX0_init ∈ wsL_law := kr_2 _ (List.mem_of_getElem? (i := 23) rfl)
theorem kw_3_0 : Cond.code yX0_init cX0_init 1 none ∈ wsL_law := kr_3 _ (List.mem_of_getElem? (i := 0) rfl)
theorem kw_3_1 : Cond.methodLink RX0 3 objectInit ∈ wsL_law := kr_3 _ (List.mem_of_getElem? (i := 1) rfl)
theorem kw_3_2 : Cond.fieldLink RX0 9 "StreetTillTen$Circle" "known" "[I" ∈ wsL_law := kr_3 _ (List.mem_of_getElem? (i := 2) rfl)
theorem kw_3_3 : Cond.methodLink RX6 35 yX5_init ∈ wsL_law := kr_3 _ (List.mem_of_getElem? (i := 3) rfl)
theorem kw_3_4 : Cond.instanceMethod yX5_init ∈ wsL_law := kr_3 _ (List.mem_of_getElem? (i := 4) rfl)
theorem kw_3_5 : Cond.code yX5_init cX5_init 2 none ∈ wsL_law := kr_3 _ (List.mem_of_getElem? (i := 5) rfl)
theorem kw_3_6 : Cond.methodLink RX5 1 objectInit ∈ wsL_law := kr_3 _ (List.mem_of_getElem? (i := 6) rfl)
theorem kw_3_7 : Cond.fieldLink RX5 9 "StreetTillTen$Text" "steps" "[I" ∈ wsL_law := kr_3 _ (List.mem_of_getElem? (i := 7) rfl)
theorem kw_3_8 : Cond.fieldLink RX5 15 "StreetTillTen$Text" "ends" "[I" ∈ wsL_law := kr_3 _ (List.mem_of_getElem? (i := 8) rfl)
theorem kw_3_9 : Cond.fieldLink RX5 18 "StreetTillTen$Text" "pile" "[I" ∈ wsL_law := kr_3 _ (List.mem_of_getElem? (i := 9) rfl)
theorem kw_3_10 : Cond.fieldLink RX5 21 "StreetTillTen$Text" "place" "I" ∈ wsL_law := kr_3 _ (List.mem_of_getElem? (i := 10) rfl)
theorem kw_3_11 : Cond.instanceMethod yX2_init ∈ wsL_law := kr_3 _ (List.mem_of_getElem? (i := 11) rfl)
theorem kw_3_12 : Cond.code yX2_init cX2_init 1 none ∈ wsL_law := kr_3 _ (List.mem_of_getElem? (i := 12) rfl)
theorem kw_3_13 : Cond.methodLink RX2 3 objectInit ∈ wsL_law := kr_3 _ (List.mem_of_getElem? (i := 13) rfl)
theorem kw_3_14 : Cond.fieldLink RX2 9 "StreetTillTen$Sheet" "sort" "I" ∈ wsL_law := kr_3 _ (List.mem_of_getElem? (i := 14) rfl)
theorem kw_3_15 : Cond.fieldLink RX2 15 "StreetTillTen$Sheet" "items" "[I" ∈ wsL_law := kr_3 _ (List.mem_of_getElem? (i := 15) rfl)
theorem kw_3_16 : Cond.methodLink RX6 41 yJ0_length_8abf5 ∈ wsL_law := kr_3 _ (List.mem_of_getElem? (i := 16) rfl)
theorem kw_3_17 : Cond.instanceMethod yJ0_length_8abf5 ∈ wsL_law := kr_3 _ (List.mem_of_getElem? (i := 17) rfl)
theorem kw_3_18 : Cond.selects RJ0 yJ0_length_8abf5 yJ0_length_8abf5 ∈ wsL_law := kr_3 _ (List.mem_of_getElem? (i := 18) rfl)
theorem kw_3_19 : Cond.initialized RJ0 ∈ wsL_law := kr_3 _ (List.mem_of_getElem? (i := 19) rfl)
theorem kw_3_20 : Cond.code yJ0_length_8abf5 cJ0_length_8abf5 1 (some .int) ∈ wsL_law := kr_3 _ (List.mem_of_getElem? (i := 20) rfl)
theorem kw_3_21 : Cond.fieldLink RJ0 9 "java/lang/String" "value" "[B" ∈ wsL_law := kr_3 _ (List.mem_of_getElem? (i := 21) rfl)
theorem kw_3_22 : Cond.methodLink RJ0 335 yJ0_coder_7d493 ∈ wsL_law := kr_3 _ (List.mem_of_getElem? (i := 22) rfl)
theorem kw_3_23 : Cond.instanceMethod yJ0_coder_7d493 ∈ wsL_law := kr_3 _ (List.mem_of_getElem? (i := 23) rfl)
theorem kw_4_0 : Cond.selects RJ0 yJ0_coder_7d493 yJ0_coder_7d493 ∈ wsL_law := kr_4 _ (List.mem_of_getElem? (i := 0) rfl)
theorem kw_4_1 : Cond.code yJ0_coder_7d493 cJ0_coder_7d493 1 (some .byte) ∈ wsL_law := kr_4 _ (List.mem_of_getElem? (i := 1) rfl)
theorem kw_4_2 : Cond.fieldLink RJ0 38 "java/lang/String" "COMPACT_STRINGS" "Z" ∈ wsL_law := kr_4 _ (List.mem_of_getElem? (i := 2) rfl)
theorem kw_4_3 : Cond.fieldLink RJ0 15 "java/lang/String" "coder" "B" ∈ wsL_law := kr_4 _ (List.mem_of_getElem? (i := 3) rfl)
theorem kw_4_4 : Cond.methodLink RX6 47 yJ0_charAt_5068e ∈ wsL_law := kr_4 _ (List.mem_of_getElem? (i := 4) rfl)
theorem kw_4_5 : Cond.instanceMethod yJ0_charAt_5068e ∈ wsL_law := kr_4 _ (List.mem_of_getElem? (i := 5) rfl)
theorem kw_4_6 : Cond.selects RJ0 yJ0_charAt_5068e yJ0_charAt_5068e ∈ wsL_law := kr_4 _ (List.mem_of_getElem? (i := 6) rfl)
theorem kw_4_7 : Cond.code yJ0_charAt_5068e cJ0_charAt_5068e 2 (some .char) ∈ wsL_law := kr_4 _ (List.mem_of_getElem? (i := 7) rfl)
theorem kw_4_8 : Cond.methodLink RJ0 492 yJ0_isLatin1_aae02 ∈ wsL_law := kr_4 _ (List.mem_of_getElem? (i := 8) rfl)
theorem kw_4_9 : Cond.instanceMethod yJ0_isLatin1_aae02 ∈ wsL_law := kr_4 _ (List.mem_of_getElem? (i := 9) rfl)
theorem kw_4_10 : Cond.selects RJ0 yJ0_isLatin1_aae02 yJ0_isLatin1_aae02 ∈ wsL_law := kr_4 _ (List.mem_of_getElem? (i := 10) rfl)
theorem kw_4_11 : Cond.code yJ0_isLatin1_aae02 cJ0_isLatin1_aae02 1 (some .boolean) ∈ wsL_law := kr_4 _ (List.mem_of_getElem? (i := 11) rfl)
theorem kw_4_12 : Cond.methodLink RJ0 495 yJ1_charAt_3b067 ∈ wsL_law := kr_4 _ (List.mem_of_getElem? (i := 12) rfl)
theorem kw_4_13 : Cond.static yJ1_charAt_3b067 ∈ wsL_law := kr_4 _ (List.mem_of_getElem? (i := 13) rfl)
theorem kw_4_14 : Cond.initialized RJ1 ∈ wsL_law := kr_4 _ (List.mem_of_getElem? (i := 14) rfl)
theorem kw_4_15 : Cond.code yJ1_charAt_3b067 cJ1_charAt_3b067 2 (some .char) ∈ wsL_law := kr_4 _ (List.mem_of_getElem? (i := 15) rfl)
theorem kw_4_16 : Cond.methodLink RJ1 9 yJ0_checkIndex_df160 ∈ wsL_law := kr_4 _ (List.mem_of_getElem? (i := 16) rfl)
theorem kw_4_17 : Cond.static yJ0_checkIndex_df160 ∈ wsL_law := kr_4 _ (List.mem_of_getElem? (i := 17) rfl)
theorem kw_4_18 : Cond.code yJ0_checkIndex_df160 cJ0_checkIndex_df160 2 none ∈ wsL_law := kr_4 _ (List.mem_of_getElem? (i := 18) rfl)
theorem kw_4_19 : Cond.fieldLink RJ0 1053 "jdk/internal/util/Preconditions" "SIOOBE_FORMATTER" "Ljava/util/function/BiFunction;" ∈ wsL_law := kr_4 _ (List.mem_of_getElem? (i := 19) rfl)
theorem kw_4_20 : Cond.methodLink RJ0 1059 yJ3_checkIndex_8e157 ∈ wsL_law := kr_4 _ (List.mem_of_getElem? (i := 20) rfl)
theorem kw_4_21 : Cond.static yJ3_checkIndex_8e157 ∈ wsL_law := kr_4 _ (List.mem_of_getElem? (i := 21) rfl)
theorem kw_4_22 : Cond.initialized RJ3 ∈ wsL_law := kr_4 _ (List.mem_of_getElem? (i := 22) rfl)
theorem kw_4_23 : Cond.code yJ3_checkIndex_8e157 cJ3_checkIndex_8e157 3 (some .int) ∈ wsL_law := kr_4 _ (List.mem_of_getElem? (i := 23) rfl)
theorem kw_5_0 : Cond.methodLink RJ0 498 yJ2_charAt_3b067 ∈ wsL_law := kr_5 _ (List.mem_of_getElem? (i := 0) rfl)
theorem kw_5_1 : Cond.static yJ2_charAt_3b067 ∈ wsL_law := kr_5 _ (List.mem_of_getElem? (i := 1) rfl)
theorem kw_5_2 : Cond.initialized RJ2 ∈ wsL_law := kr_5 _ (List.mem_of_getElem? (i := 2) rfl)
theorem kw_5_3 : Cond.code yJ2_charAt_3b067 cJ2_charAt_3b067 2 (some .char) ∈ wsL_law := kr_5 _ (List.mem_of_getElem? (i := 3) rfl)
theorem kw_5_4 : Cond.methodLink RJ2 67 yJ2_checkIndex_2214a ∈ wsL_law := kr_5 _ (List.mem_of_getElem? (i := 4) rfl)
theorem kw_5_5 : Cond.static yJ2_checkIndex_2214a ∈ wsL_law := kr_5 _ (List.mem_of_getElem? (i := 5) rfl)
theorem kw_5_6 : Cond.code yJ2_checkIndex_2214a cJ2_checkIndex_2214a 2 none ∈ wsL_law := kr_5 _ (List.mem_of_getElem? (i := 6) rfl)
theorem kw_5_7 : Cond.methodLink RJ2 48 yJ2_length_9d52b ∈ wsL_law := kr_5 _ (List.mem_of_getElem? (i := 7) rfl)
theorem kw_5_8 : Cond.static yJ2_length_9d52b ∈ wsL_law := kr_5 _ (List.mem_of_getElem? (i := 8) rfl)
theorem kw_5_9 : Cond.code yJ2_length_9d52b cJ2_length_9d52b 1 (some .int) ∈ wsL_law := kr_5 _ (List.mem_of_getElem? (i := 9) rfl)
theorem kw_5_10 : Cond.methodLink RJ2 414 yJ0_checkIndex_df160 ∈ wsL_law := kr_5 _ (List.mem_of_getElem? (i := 10) rfl)
theorem kw_5_11 : Cond.methodLink RJ2 71 yJ2_getChar_3b067 ∈ wsL_law := kr_5 _ (List.mem_of_getElem? (i := 11) rfl)
theorem kw_5_12 : Cond.static yJ2_getChar_3b067 ∈ wsL_law := kr_5 _ (List.mem_of_getElem? (i := 12) rfl)
theorem kw_5_13 : Cond.code yJ2_getChar_3b067 cJ2_getChar_3b067 2 (some .char) ∈ wsL_law := kr_5 _ (List.mem_of_getElem? (i := 13) rfl)
theorem kw_5_17 : Cond.methodLink RX6 51 yX4_put ∈ wsL_law := kr_5 _ (List.mem_of_getElem? (i := 17) rfl)
theorem kw_5_18 : Cond.instanceMethod yX4_put ∈ wsL_law := kr_5 _ (List.mem_of_getElem? (i := 18) rfl)
theorem kw_5_19 : Cond.selects RX4 yX4_put yX4_put ∈ wsL_law := kr_5 _ (List.mem_of_getElem? (i := 19) rfl)
theorem kw_5_20 : Cond.code yX4_put cX4_put 2 (some .boolean) ∈ wsL_law := kr_5 _ (List.mem_of_getElem? (i := 20) rfl)
theorem kw_5_21 : Cond.fieldLink RX4 24 "StreetTillTen$Tape" "size" "I" ∈ wsL_law := kr_5 _ (List.mem_of_getElem? (i := 21) rfl)
theorem kw_5_22 : Cond.methodLink RX6 57 yX1_init ∈ wsL_law := kr_5 _ (List.mem_of_getElem? (i := 22) rfl)
theorem kw_5_23 : Cond.instanceMethod yX1_init ∈ wsL_law := kr_5 _ (List.mem_of_getElem? (i := 23) rfl)
theorem kw_6_0 : Cond.code yX1_init cX1_init 3 none ∈ wsL_law := kr_6 _ (List.mem_of_getElem? (i := 0) rfl)
theorem kw_6_1 : Cond.methodLink RX1 3 objectInit ∈ wsL_law := kr_6 _ (List.mem_of_getElem? (i := 1) rfl)
theorem kw_6_2 : Cond.fieldLink RX1 9 "StreetTillTen$Reader" "tape" "LStreetTillTen$Tape;" ∈ wsL_law := kr_6 _ (List.mem_of_getElem? (i := 2) rfl)
theorem kw_6_3 : Cond.fieldLink RX1 15 "StreetTillTen$Reader" "text" "LStreetTillTen$Text;" ∈ wsL_law := kr_6 _ (List.mem_of_getElem? (i := 3) rfl)
theorem kw_6_4 : Cond.methodLink RX6 64 yX1_readInto ∈ wsL_law := kr_6 _ (List.mem_of_getElem? (i := 4) rfl)
theorem kw_6_5 : Cond.instanceMethod yX1_readInto ∈ wsL_law := kr_6 _ (List.mem_of_getElem? (i := 5) rfl)
theorem kw_6_6 : Cond.selects RX1 yX1_readInto yX1_readInto ∈ wsL_law := kr_6 _ (List.mem_of_getElem? (i := 6) rfl)
theorem kw_6_7 : Cond.code yX1_readInto cX1_readInto 2 (some .int) ∈ wsL_law := kr_6 _ (List.mem_of_getElem? (i := 7) rfl)
theorem kw_6_8 : Cond.fieldLink RX1 29 "StreetTillTen$Reader" "at" "I" ∈ wsL_law := kr_6 _ (List.mem_of_getElem? (i := 8) rfl)
theorem kw_6_9 : Cond.fieldLink RX1 33 "StreetTillTen$Tape" "tokens" "[I" ∈ wsL_law := kr_6 _ (List.mem_of_getElem? (i := 9) rfl)
theorem kw_6_10 : Cond.fieldLink RX1 37 "StreetTillTen$Reader" "token" "I" ∈ wsL_law := kr_6 _ (List.mem_of_getElem? (i := 10) rfl)
theorem kw_6_11 : Cond.fieldLink RX1 40 "StreetTillTen$Reader" "fault" "I" ∈ wsL_law := kr_6 _ (List.mem_of_getElem? (i := 11) rfl)
theorem kw_6_12 : Cond.methodLink RX1 19 yX5_clear ∈ wsL_law := kr_6 _ (List.mem_of_getElem? (i := 12) rfl)
theorem kw_6_13 : Cond.instanceMethod yX5_clear ∈ wsL_law := kr_6 _ (List.mem_of_getElem? (i := 13) rfl)
theorem kw_6_14 : Cond.selects RX5 yX5_clear yX5_clear ∈ wsL_law := kr_6 _ (List.mem_of_getElem? (i := 14) rfl)
theorem kw_6_15 : Cond.code yX5_clear cX5_clear 1 none ∈ wsL_law := kr_6 _ (List.mem_of_getElem? (i := 15) rfl)
theorem kw_6_16 : Cond.fieldLink RX5 25 "StreetTillTen$Text" "size" "I" ∈ wsL_law := kr_6 _ (List.mem_of_getElem? (i := 16) rfl)
theorem kw_6_17 : Cond.methodLink RX1 24 yX4_cut ∈ wsL_law := kr_6 _ (List.mem_of_getElem? (i := 17) rfl)
theorem kw_6_18 : Cond.instanceMethod yX4_cut ∈ wsL_law := kr_6 _ (List.mem_of_getElem? (i := 18) rfl)
theorem kw_6_19 : Cond.selects RX4 yX4_cut yX4_cut ∈ wsL_law := kr_6 _ (List.mem_of_getElem? (i := 19) rfl)
theorem kw_6_20 : Cond.code yX4_cut cX4_cut 2 none ∈ wsL_law := kr_6 _ (List.mem_of_getElem? (i := 20) rfl)
theorem kw_6_21 : Cond.fieldLink RX4 28 "StreetTillTen$Tape" "at" "I" ∈ wsL_law := kr_6 _ (List.mem_of_getElem? (i := 21) rfl)
theorem kw_6_22 : Cond.methodLink RX4 31 yX4_isBlank ∈ wsL_law := kr_6 _ (List.mem_of_getElem? (i := 22) rfl)
theorem kw_6_23 : Cond.static yX4_isBlank ∈ wsL_law := kr_6 _ (List.mem_of_getElem? (i := 23) rfl)
theorem kw_7_0 : Cond.code yX4_isBlank cX4_isBlank 1 (some .boolean) ∈ wsL_law := kr_7 _ (List.mem_of_getElem? (i := 0) rfl)
theorem kw_7_1 : Cond.methodLink RX4 35 yX4_isDigit ∈ wsL_law := kr_7 _ (List.mem_of_getElem? (i := 1) rfl)
theorem kw_7_2 : Cond.static yX4_isDigit ∈ wsL_law := kr_7 _ (List.mem_of_getElem? (i := 2) rfl)
theorem kw_7_3 : Cond.code yX4_isDigit cX4_isDigit 1 (some .boolean) ∈ wsL_law := kr_7 _ (List.mem_of_getElem? (i := 3) rfl)
theorem kw_7_4 : Cond.methodLink RX4 38 yX4_cutNumber ∈ wsL_law := kr_7 _ (List.mem_of_getElem? (i := 4) rfl)
theorem kw_7_5 : Cond.instanceMethod yX4_cutNumber ∈ wsL_law := kr_7 _ (List.mem_of_getElem? (i := 5) rfl)
theorem kw_7_6 : Cond.selects RX4 yX4_cutNumber yX4_cutNumber ∈ wsL_law := kr_7 _ (List.mem_of_getElem? (i := 6) rfl)
theorem kw_7_7 : Cond.code yX4_cutNumber cX4_cutNumber 3 none ∈ wsL_law := kr_7 _ (List.mem_of_getElem? (i := 7) rfl)
theorem kw_7_8 : Cond.methodLink RX4 42 yX4_isSmall ∈ wsL_law := kr_7 _ (List.mem_of_getElem? (i := 8) rfl)
theorem kw_7_9 : Cond.static yX4_isSmall ∈ wsL_law := kr_7 _ (List.mem_of_getElem? (i := 9) rfl)
theorem kw_7_10 : Cond.code yX4_isSmall cX4_isSmall 1 (some .boolean) ∈ wsL_law := kr_7 _ (List.mem_of_getElem? (i := 10) rfl)
theorem kw_7_11 : Cond.methodLink RX4 45 yX4_cutWord ∈ wsL_law := kr_7 _ (List.mem_of_getElem? (i := 11) rfl)
theorem kw_7_12 : Cond.instanceMethod yX4_cutWord ∈ wsL_law := kr_7 _ (List.mem_of_getElem? (i := 12) rfl)
theorem kw_7_13 : Cond.selects RX4 yX4_cutWord yX4_cutWord ∈ wsL_law := kr_7 _ (List.mem_of_getElem? (i := 13) rfl)
theorem kw_7_14 : Cond.code yX4_cutWord cX4_cutWord 3 none ∈ wsL_law := kr_7 _ (List.mem_of_getElem? (i := 14) rfl)
theorem kw_7_15 : Cond.methodLink RX4 48 yX4_nameFrom ∈ wsL_law := kr_7 _ (List.mem_of_getElem? (i := 15) rfl)
theorem kw_7_16 : Cond.instanceMethod yX4_nameFrom ∈ wsL_law := kr_7 _ (List.mem_of_getElem? (i := 16) rfl)
theorem kw_7_17 : Cond.selects RX4 yX4_nameFrom yX4_nameFrom ∈ wsL_law := kr_7 _ (List.mem_of_getElem? (i := 17) rfl)
theorem kw_7_18 : Cond.code yX4_nameFrom cX4_nameFrom 2 (some .int) ∈ wsL_law := kr_7 _ (List.mem_of_getElem? (i := 18) rfl)
theorem kw_7_19 : Cond.methodLink RX4 59 yX4_reads ∈ wsL_law := kr_7 _ (List.mem_of_getElem? (i := 19) rfl)
theorem kw_7_20 : Cond.instanceMethod yX4_reads ∈ wsL_law := kr_7 _ (List.mem_of_getElem? (i := 20) rfl)
theorem kw_7_21 : Cond.selects RX4 yX4_reads yX4_reads ∈ wsL_law := kr_7 _ (List.mem_of_getElem? (i := 21) rfl)
theorem kw_7_22 : Cond.code yX4_reads cX4_reads 4 (some .boolean) ∈ wsL_law := kr_7 _ (List.mem_of_getElem? (i := 22) rfl)
theorem kw_7_23 : Cond.methodLink RX4 85 yJ0_length_8abf5 ∈ wsL_law := kr_7 _ (List.mem_of_getElem? (i := 23) rfl)
theorem kw_8_0 : Cond.methodLink RX4 91 yJ0_charAt_5068e ∈ wsL_law := kr_8 _ (List.mem_of_getElem? (i := 0) rfl)
theorem kw_8_1 : Cond.methodLink RX4 52 yX4_keyFrom ∈ wsL_law := kr_8 _ (List.mem_of_getElem? (i := 1) rfl)
theorem kw_8_2 : Cond.instanceMethod yX4_keyFrom ∈ wsL_law := kr_8 _ (List.mem_of_getElem? (i := 2) rfl)
theorem kw_8_3 : Cond.selects RX4 yX4_keyFrom yX4_keyFrom ∈ wsL_law := kr_8 _ (List.mem_of_getElem? (i := 3) rfl)
theorem kw_8_4 : Cond.code yX4_keyFrom cX4_keyFrom 2 (some .int) ∈ wsL_law := kr_8 _ (List.mem_of_getElem? (i := 4) rfl)
theorem kw_8_5 : Cond.methodLink RX1 43 yX1_readPart ∈ wsL_law := kr_8 _ (List.mem_of_getElem? (i := 5) rfl)
theorem kw_8_6 : Cond.instanceMethod yX1_readPart ∈ wsL_law := kr_8 _ (List.mem_of_getElem? (i := 6) rfl)
theorem kw_8_7 : Cond.selects RX1 yX1_readPart yX1_readPart ∈ wsL_law := kr_8 _ (List.mem_of_getElem? (i := 7) rfl)
theorem kw_8_8 : Cond.code yX1_readPart cX1_readPart 3 none ∈ wsL_law := kr_8 _ (List.mem_of_getElem? (i := 8) rfl)
theorem kw_8_9 : Cond.methodLink RX1 50 yX1_expect ∈ wsL_law := kr_8 _ (List.mem_of_getElem? (i := 9) rfl)
theorem kw_8_10 : Cond.instanceMethod yX1_expect ∈ wsL_law := kr_8 _ (List.mem_of_getElem? (i := 10) rfl)
theorem kw_8_11 : Cond.selects RX1 yX1_expect yX1_expect ∈ wsL_law := kr_8 _ (List.mem_of_getElem? (i := 11) rfl)
theorem kw_8_12 : Cond.code yX1_expect cX1_expect 2 none ∈ wsL_law := kr_8 _ (List.mem_of_getElem? (i := 12) rfl)
theorem kw_8_13 : Cond.methodLink RX1 77 yX1_next ∈ wsL_law := kr_8 _ (List.mem_of_getElem? (i := 13) rfl)
theorem kw_8_14 : Cond.instanceMethod yX1_next ∈ wsL_law := kr_8 _ (List.mem_of_getElem? (i := 14) rfl)
theorem kw_8_15 : Cond.selects RX1 yX1_next yX1_next ∈ wsL_law := kr_8 _ (List.mem_of_getElem? (i := 15) rfl)
theorem kw_8_16 : Cond.code yX1_next cX1_next 1 none ∈ wsL_law := kr_8 _ (List.mem_of_getElem? (i := 16) rfl)
theorem kw_8_17 : Cond.methodLink RX1 47 yX1_fail ∈ wsL_law := kr_8 _ (List.mem_of_getElem? (i := 17) rfl)
theorem kw_8_18 : Cond.instanceMethod yX1_fail ∈ wsL_law := kr_8 _ (List.mem_of_getElem? (i := 18) rfl)
theorem kw_8_19 : Cond.selects RX1 yX1_fail yX1_fail ∈ wsL_law := kr_8 _ (List.mem_of_getElem? (i := 19) rfl)
theorem kw_8_20 : Cond.code yX1_fail cX1_fail 1 none ∈ wsL_law := kr_8 _ (List.mem_of_getElem? (i := 20) rfl)
theorem kw_8_21 : Cond.fieldLink RX1 83 "StreetTillTen$Tape" "starts" "[I" ∈ wsL_law := kr_8 _ (List.mem_of_getElem? (i := 21) rfl)
theorem kw_8_22 : Cond.methodLink RX1 54 yX1_read ∈ wsL_law := kr_8 _ (List.mem_of_getElem? (i := 22) rfl)
theorem kw_8_23 : Cond.instanceMethod yX1_read ∈ wsL_law := kr_8 _ (List.mem_of_getElem? (i := 23) rfl)
theorem kw_9_0 : Cond.selects RX1 yX1_read yX1_read ∈ wsL_law := kr_9 _ (List.mem_of_getElem? (i := 0) rfl)
theorem kw_9_1 : Cond.code yX1_read cX1_read 6 none ∈ wsL_law := kr_9 _ (List.mem_of_getElem? (i := 1) rfl)
theorem kw_9_2 : Cond.methodLink RX1 60 yX1_readOne ∈ wsL_law := kr_9 _ (List.mem_of_getElem? (i := 2) rfl)
theorem kw_9_3 : Cond.instanceMethod yX1_readOne ∈ wsL_law := kr_9 _ (List.mem_of_getElem? (i := 3) rfl)
theorem kw_9_4 : Cond.selects RX1 yX1_readOne yX1_readOne ∈ wsL_law := kr_9 _ (List.mem_of_getElem? (i := 4) rfl)
theorem kw_9_5 : Cond.methodLink RX1 63 yX1_opens ∈ wsL_law := kr_9 _ (List.mem_of_getElem? (i := 5) rfl)
theorem kw_9_6 : Cond.instanceMethod yX1_opens ∈ wsL_law := kr_9 _ (List.mem_of_getElem? (i := 6) rfl)
theorem kw_9_7 : Cond.selects RX1 yX1_opens yX1_opens ∈ wsL_law := kr_9 _ (List.mem_of_getElem? (i := 7) rfl)
theorem kw_9_8 : Cond.code yX1_opens cX1_opens 2 (some .boolean) ∈ wsL_law := kr_9 _ (List.mem_of_getElem? (i := 8) rfl)
theorem kw_9_9 : Cond.methodLink RX1 67 yX5_write ∈ wsL_law := kr_9 _ (List.mem_of_getElem? (i := 9) rfl)
theorem kw_9_10 : Cond.instanceMethod yX5_write ∈ wsL_law := kr_9 _ (List.mem_of_getElem? (i := 10) rfl)
theorem kw_9_11 : Cond.selects RX5 yX5_write yX5_write ∈ wsL_law := kr_9 _ (List.mem_of_getElem? (i := 11) rfl)
theorem kw_9_12 : Cond.code yX5_write cX5_write 2 none ∈ wsL_law := kr_9 _ (List.mem_of_getElem? (i := 12) rfl)
theorem kw_9_13 : Cond.methodLink RX1 70 yX1_levelOf ∈ wsL_law := kr_9 _ (List.mem_of_getElem? (i := 13) rfl)
theorem kw_9_14 : Cond.static yX1_levelOf ∈ wsL_law := kr_9 _ (List.mem_of_getElem? (i := 14) rfl)
theorem kw_9_15 : Cond.code yX1_levelOf cX1_levelOf 1 (some .int) ∈ wsL_law := kr_9 _ (List.mem_of_getElem? (i := 15) rfl)
theorem kw_9_16 : Cond.methodLink RX1 74 yX1_operationOf ∈ wsL_law := kr_9 _ (List.mem_of_getElem? (i := 16) rfl)
theorem kw_9_17 : Cond.static yX1_operationOf ∈ wsL_law := kr_9 _ (List.mem_of_getElem? (i := 17) rfl)
theorem kw_9_18 : Cond.code yX1_operationOf cX1_operationOf 1 (some .int) ∈ wsL_law := kr_9 _ (List.mem_of_getElem? (i := 18) rfl)
theorem kw_9_19 : Cond.code yX1_readOne cX1_readOne 2 none ∈ wsL_law := kr_9 _ (List.mem_of_getElem? (i := 19) rfl)
theorem kw_9_20 : Cond.fieldLink RX1 80 "StreetTillTen$Tape" "steps" "[I" ∈ wsL_law := kr_9 _ (List.mem_of_getElem? (i := 20) rfl)
theorem kw_9_21 : Cond.methodLink RX1 57 yX5_endPart ∈ wsL_law := kr_9 _ (List.mem_of_getElem? (i := 21) rfl)
theorem kw_9_22 : Cond.instanceMethod yX5_endPart ∈ wsL_law := kr_9 _ (List.mem_of_getElem? (i := 22) rfl)
theorem kw_9_23 : Cond.selects RX5 yX5_endPart yX5_endPart ∈ wsL_law := kr_9 _ (List.mem_of_getElem? (i := 23) rfl)
theorem kw_10_0 : Cond.code yX5_endPart cX5_endPart 2 none ∈ wsL_law := kr_10 _ (List.mem_of_getElem? (i := 0) rfl)
theorem kw_10_1 : Cond.methodLink RX6 68 yX4_empty ∈ wsL_law := kr_10 _ (List.mem_of_getElem? (i := 1) rfl)
theorem kw_10_2 : Cond.instanceMethod yX4_empty ∈ wsL_law := kr_10 _ (List.mem_of_getElem? (i := 2) rfl)
theorem kw_10_3 : Cond.selects RX4 yX4_empty yX4_empty ∈ wsL_law := kr_10 _ (List.mem_of_getElem? (i := 3) rfl)
theorem kw_10_4 : Cond.code yX4_empty cX4_empty 1 none ∈ wsL_law := kr_10 _ (List.mem_of_getElem? (i := 4) rfl)
theorem kw_10_5 : Cond.methodLink RX6 77 yX3_init ∈ wsL_law := kr_10 _ (List.mem_of_getElem? (i := 5) rfl)
theorem kw_10_6 : Cond.instanceMethod yX3_init ∈ wsL_law := kr_10 _ (List.mem_of_getElem? (i := 6) rfl)
theorem kw_10_7 : Cond.code yX3_init cX3_init 2 none ∈ wsL_law := kr_10 _ (List.mem_of_getElem? (i := 7) rfl)
theorem kw_10_8 : Cond.methodLink RX3 3 objectInit ∈ wsL_law := kr_10 _ (List.mem_of_getElem? (i := 8) rfl)
theorem kw_10_9 : Cond.fieldLink RX3 9 "StreetTillTen$Street" "limit" "I" ∈ wsL_law := kr_10 _ (List.mem_of_getElem? (i := 9) rfl)
theorem kw_10_10 : Cond.fieldLink RX3 15 "StreetTillTen$Street" "kind" "[I" ∈ wsL_law := kr_10 _ (List.mem_of_getElem? (i := 10) rfl)
theorem kw_10_11 : Cond.fieldLink RX3 19 "StreetTillTen$Street" "number" "[I" ∈ wsL_law := kr_10 _ (List.mem_of_getElem? (i := 11) rfl)
theorem kw_10_12 : Cond.fieldLink RX3 22 "StreetTillTen$Street" "table" "[I" ∈ wsL_law := kr_10 _ (List.mem_of_getElem? (i := 12) rfl)
theorem kw_10_13 : Cond.classLink RX3 25 "[[I" ∈ wsL_law := kr_10 _ (List.mem_of_getElem? (i := 13) rfl)
theorem kw_10_14 : Cond.fieldLink RX3 27 "StreetTillTen$Street" "strength" "[[I" ∈ wsL_law := kr_10 _ (List.mem_of_getElem? (i := 14) rfl)
theorem kw_10_15 : Cond.fieldLink RX3 32 "StreetTillTen$Street" "names" "[I" ∈ wsL_law := kr_10 _ (List.mem_of_getElem? (i := 15) rfl)
theorem kw_10_16 : Cond.fieldLink RX3 35 "StreetTillTen$Street" "rule" "LStreetTillTen$Text;" ∈ wsL_law := kr_10 _ (List.mem_of_getElem? (i := 16) rfl)
theorem kw_10_18 : Cond.instanceMethod yX7_init ∈ wsL_law := kr_10 _ (List.mem_of_getElem? (i := 18) rfl)
theorem kw_10_19 : Cond.code yX7_init cX7_init 1 none ∈ wsL_law := kr_10 _ (List.mem_of_getElem? (i := 19) rfl)
theorem kw_10_20 : Cond.methodLink RX7 7 objectInit ∈ wsL_law := kr_10 _ (List.mem_of_getElem? (i := 20) rfl)
theorem kw_10_21 : Cond.fieldLink RX7 13 "StreetTillTenModel" "texts" "[I" ∈ wsL_law := kr_10 _ (List.mem_of_getElem? (i := 21) rfl)
theorem kw_10_22 : Cond.fieldLink RX7 17 "StreetTillTenModel" "textSize" "[I" ∈ wsL_law := kr_10 _ (List.mem_of_getElem? (i := 22) rfl)
theorem kw_10_23 : Cond.fieldLink RX7 20 "StreetTillTenModel" "tape" "[I" ∈ wsL_law := kr_10 _ (List.mem_of_getElem? (i := 23) rfl)
theorem kw_11_0 : Cond.fieldLink RX7 23 "StreetTillTenModel" "limit" "I" ∈ wsL_law := kr_11 _ (List.mem_of_getElem? (i := 0) rfl)
theorem kw_11_1 : Cond.fieldLink RX7 26 "StreetTillTenModel" "kinds" "[I" ∈ wsL_law := kr_11 _ (List.mem_of_getElem? (i := 1) rfl)
theorem kw_11_2 : Cond.fieldLink RX7 29 "StreetTillTenModel" "numbers" "[I" ∈ wsL_law := kr_11 _ (List.mem_of_getElem? (i := 2) rfl)
theorem kw_11_3 : Cond.fieldLink RX7 32 "StreetTillTenModel" "tables" "[I" ∈ wsL_law := kr_11 _ (List.mem_of_getElem? (i := 3) rfl)
theorem kw_11_4 : Cond.fieldLink RX7 35 "StreetTillTenModel" "strengths" "[I" ∈ wsL_law := kr_11 _ (List.mem_of_getElem? (i := 4) rfl)
theorem kw_11_5 : Cond.fieldLink RX7 38 "StreetTillTenModel" "extraA" "I" ∈ wsL_law := kr_11 _ (List.mem_of_getElem? (i := 5) rfl)
theorem kw_11_6 : Cond.fieldLink RX7 41 "StreetTillTenModel" "extraB" "I" ∈ wsL_law := kr_11 _ (List.mem_of_getElem? (i := 6) rfl)
theorem kw_11_7 : Cond.fieldLink RX7 44 "StreetTillTenModel" "gone" "I" ∈ wsL_law := kr_11 _ (List.mem_of_getElem? (i := 7) rfl)
theorem kw_11_8 : Cond.fieldLink RX7 47 "StreetTillTenModel" "ways" "[I" ∈ wsL_law := kr_11 _ (List.mem_of_getElem? (i := 8) rfl)
theorem kw_11_9 : Cond.fieldLink RX7 50 "StreetTillTenModel" "strengthsWas" "[I" ∈ wsL_law := kr_11 _ (List.mem_of_getElem? (i := 9) rfl)
theorem kw_11_10 : Cond.fieldLink RX7 53 "StreetTillTenModel" "tablesWas" "[I" ∈ wsL_law := kr_11 _ (List.mem_of_getElem? (i := 10) rfl)
theorem kw_11_11 : Cond.fieldLink RX7 56 "StreetTillTenModel" "numbersKept" "[I" ∈ wsL_law := kr_11 _ (List.mem_of_getElem? (i := 11) rfl)
theorem kw_11_12 : Cond.fieldLink RX7 59 "StreetTillTenModel" "tablesKept" "[I" ∈ wsL_law := kr_11 _ (List.mem_of_getElem? (i := 12) rfl)
theorem kw_11_13 : Cond.fieldLink RX7 62 "StreetTillTenModel" "strengthsKept" "[I" ∈ wsL_law := kr_11 _ (List.mem_of_getElem? (i := 13) rfl)
theorem kw_11_14 : Cond.fieldLink RX7 65 "StreetTillTenModel" "manyKept" "I" ∈ wsL_law := kr_11 _ (List.mem_of_getElem? (i := 14) rfl)
theorem kw_11_15 : Cond.arrayClass .boolean ∈ wsL_law := kr_11 _ (List.mem_of_getElem? (i := 15) rfl)
theorem kw_11_16 : Cond.fieldLink RX7 68 "StreetTillTenModel" "isThere" "[Z" ∈ wsL_law := kr_11 _ (List.mem_of_getElem? (i := 16) rfl)
theorem kw_11_17 : Cond.fieldLink RX7 72 "StreetTillTenModel" "sorts" "[I" ∈ wsL_law := kr_11 _ (List.mem_of_getElem? (i := 17) rfl)
theorem kw_11_18 : Cond.fieldLink RX7 75 "StreetTillTenModel" "sheetSize" "[I" ∈ wsL_law := kr_11 _ (List.mem_of_getElem? (i := 18) rfl)
theorem kw_11_19 : Cond.fieldLink RX7 78 "StreetTillTenModel" "items" "[I" ∈ wsL_law := kr_11 _ (List.mem_of_getElem? (i := 19) rfl)
theorem kw_11_20 : Cond.fieldLink RX7 85 "StreetTillTenModel" "textCount" "I" ∈ wsL_law := kr_11 _ (List.mem_of_getElem? (i := 20) rfl)
theorem kw_11_21 : Cond.methodLink RX7 81 yX7_spell ∈ wsL_law := kr_11 _ (List.mem_of_getElem? (i := 21) rfl)
theorem kw_11_22 : Cond.instanceMethod yX7_spell ∈ wsL_law := kr_11 _ (List.mem_of_getElem? (i := 22) rfl)
theorem kw_11_23 : Cond.selects RX7 yX7_spell yX7_spell ∈ wsL_law := kr_11 _ (List.mem_of_getElem? (i := 23) rfl)
theorem kw_12_0 : Cond.code yX7_spell cX7_spell 10 none ∈ wsL_law := kr_12 _ (List.mem_of_getElem? (i := 0) rfl)
theorem kw_12_2 : Cond.instanceMethod yX6_set ∈ wsL_law := kr_12 _ (List.mem_of_getElem? (i := 2) rfl)
theorem kw_12_3 : Cond.selects RX6 yX6_set yX6_set ∈ wsL_law := kr_12 _ (List.mem_of_getElem? (i := 3) rfl)
theorem kw_12_4 : Cond.code yX6_set cX6_set 5 (some .int) ∈ wsL_law := kr_12 _ (List.mem_of_getElem? (i := 4) rfl)
theorem kw_12_5 : Cond.fieldLink RX6 93 "StreetTillTen" "LEAST_SETTING" "[I" ∈ wsL_law := kr_12 _ (List.mem_of_getElem? (i := 5) rfl)
theorem kw_12_6 : Cond.fieldLink RX6 97 "StreetTillTen" "MOST_SETTING" "[I" ∈ wsL_law := kr_12 _ (List.mem_of_getElem? (i := 6) rfl)
theorem kw_12_7 : Cond.fieldLink RX6 104 "StreetTillTen$Street" "year" "I" ∈ wsL_law := kr_12 _ (List.mem_of_getElem? (i := 7) rfl)
theorem kw_12_8 : Cond.fieldLink RX6 107 "StreetTillTen$Street" "limit" "I" ∈ wsL_law := kr_12 _ (List.mem_of_getElem? (i := 8) rfl)
theorem kw_12_9 : Cond.fieldLink RX6 110 "StreetTillTen$Street" "number" "[I" ∈ wsL_law := kr_12 _ (List.mem_of_getElem? (i := 9) rfl)
theorem kw_12_10 : Cond.fieldLink RX6 113 "StreetTillTen$Street" "table" "[I" ∈ wsL_law := kr_12 _ (List.mem_of_getElem? (i := 10) rfl)
theorem kw_12_11 : Cond.methodLink RX6 90 yX6_isHouse ∈ wsL_law := kr_12 _ (List.mem_of_getElem? (i := 11) rfl)
theorem kw_12_12 : Cond.instanceMethod yX6_isHouse ∈ wsL_law := kr_12 _ (List.mem_of_getElem? (i := 12) rfl)
theorem kw_12_13 : Cond.selects RX6 yX6_isHouse yX6_isHouse ∈ wsL_law := kr_12 _ (List.mem_of_getElem? (i := 13) rfl)
theorem kw_12_14 : Cond.code yX6_isHouse cX6_isHouse 2 (some .boolean) ∈ wsL_law := kr_12 _ (List.mem_of_getElem? (i := 14) rfl)
theorem kw_12_15 : Cond.fieldLink RX6 195 "StreetTillTen$Street" "count" "I" ∈ wsL_law := kr_12 _ (List.mem_of_getElem? (i := 15) rfl)
theorem kw_12_16 : Cond.methodLink RX6 100 yX6_setting ∈ wsL_law := kr_12 _ (List.mem_of_getElem? (i := 16) rfl)
theorem kw_12_17 : Cond.instanceMethod yX6_setting ∈ wsL_law := kr_12 _ (List.mem_of_getElem? (i := 17) rfl)
theorem kw_12_18 : Cond.selects RX6 yX6_setting yX6_setting ∈ wsL_law := kr_12 _ (List.mem_of_getElem? (i := 18) rfl)
theorem kw_12_19 : Cond.code yX6_setting cX6_setting 3 (some .int) ∈ wsL_law := kr_12 _ (List.mem_of_getElem? (i := 19) rfl)
theorem kw_12_21 : Cond.instanceMethod yX7_set ∈ wsL_law := kr_12 _ (List.mem_of_getElem? (i := 21) rfl)
theorem kw_12_22 : Cond.selects RX7 yX7_set yX7_set ∈ wsL_law := kr_12 _ (List.mem_of_getElem? (i := 22) rfl)
theorem kw_12_23 : Cond.code yX7_set cX7_set 5 (some .int) ∈ wsL_law := kr_12 _ (List.mem_of_getElem? (i := 23) rfl)
theorem kw_13_0 : Cond.constantLong RX7 97 (3) ∈ wsL_law := kr_13 _ (List.mem_of_getElem? (i := 0) rfl)
theorem kw_13_1 : Cond.methodLink RX7 91 yX7_in ∈ wsL_law := kr_13 _ (List.mem_of_getElem? (i := 1) rfl)
theorem kw_13_2 : Cond.static yX7_in ∈ wsL_law := kr_13 _ (List.mem_of_getElem? (i := 2) rfl)
theorem kw_13_3 : Cond.code yX7_in cX7_in 6 (some .boolean) ∈ wsL_law := kr_13 _ (List.mem_of_getElem? (i := 3) rfl)
theorem kw_13_4 : Cond.methodLink RX7 105 yX7_isHouse ∈ wsL_law := kr_13 _ (List.mem_of_getElem? (i := 4) rfl)
theorem kw_13_5 : Cond.instanceMethod yX7_isHouse ∈ wsL_law := kr_13 _ (List.mem_of_getElem? (i := 5) rfl)
theorem kw_13_6 : Cond.selects RX7 yX7_isHouse yX7_isHouse ∈ wsL_law := kr_13 _ (List.mem_of_getElem? (i := 6) rfl)
theorem kw_13_7 : Cond.code yX7_isHouse cX7_isHouse 2 (some .boolean) ∈ wsL_law := kr_13 _ (List.mem_of_getElem? (i := 7) rfl)
theorem kw_13_8 : Cond.fieldLink RX7 88 "StreetTillTenModel" "many" "I" ∈ wsL_law := kr_13 _ (List.mem_of_getElem? (i := 8) rfl)
theorem kw_13_9 : Cond.methodLink RX7 109 yX7_isValue ∈ wsL_law := kr_13 _ (List.mem_of_getElem? (i := 9) rfl)
theorem kw_13_10 : Cond.static yX7_isValue ∈ wsL_law := kr_13 _ (List.mem_of_getElem? (i := 10) rfl)
theorem kw_13_11 : Cond.code yX7_isValue cX7_isValue 2 (some .boolean) ∈ wsL_law := kr_13 _ (List.mem_of_getElem? (i := 11) rfl)
theorem kw_13_12 : Cond.constantLong RX7 95 (-1) ∈ wsL_law := kr_13 _ (List.mem_of_getElem? (i := 12) rfl)
theorem kw_13_13 : Cond.constantLong RX7 99 (999) ∈ wsL_law := kr_13 _ (List.mem_of_getElem? (i := 13) rfl)
theorem kw_13_14 : Cond.constantLong RX7 101 (99) ∈ wsL_law := kr_13 _ (List.mem_of_getElem? (i := 14) rfl)
theorem kw_13_15 : Cond.constantLong RX7 103 (9) ∈ wsL_law := kr_13 _ (List.mem_of_getElem? (i := 15) rfl)
theorem kw_13_16 : Cond.methodLink RX7 113 yX7_told ∈ wsL_law := kr_13 _ (List.mem_of_getElem? (i := 16) rfl)
theorem kw_13_17 : Cond.instanceMethod yX7_told ∈ wsL_law := kr_13 _ (List.mem_of_getElem? (i := 17) rfl)
theorem kw_13_18 : Cond.selects RX7 yX7_told yX7_told ∈ wsL_law := kr_13 _ (List.mem_of_getElem? (i := 18) rfl)
theorem kw_13_19 : Cond.code yX7_told cX7_told 6 (some .int) ∈ wsL_law := kr_13 _ (List.mem_of_getElem? (i := 19) rfl)
theorem kw_13_20 : Cond.constantLong RX7 142 (10) ∈ wsL_law := kr_13 _ (List.mem_of_getElem? (i := 20) rfl)
theorem kw_13_21 : Cond.constantLong RX7 144 (17) ∈ wsL_law := kr_13 _ (List.mem_of_getElem? (i := 21) rfl)
theorem kw_13_22 : Cond.constantLong RX7 146 (7) ∈ wsL_law := kr_13 _ (List.mem_of_getElem? (i := 22) rfl)
theorem kw_13_23 : Cond.fieldLink RX7 121 "StreetTillTenModel" "yearNow" "I" ∈ wsL_law := kr_13 _ (List.mem_of_getElem? (i := 23) rfl)
theorem kw_14_0 : Cond.methodLink RX7 139 yX7_strengthOf ∈ wsL_law := kr_14 _ (List.mem_of_getElem? (i := 0) rfl)
theorem kw_14_1 : Cond.instanceMethod yX7_strengthOf ∈ wsL_law := kr_14 _ (List.mem_of_getElem? (i := 1) rfl)
theorem kw_14_2 : Cond.selects RX7 yX7_strengthOf yX7_strengthOf ∈ wsL_law := kr_14 _ (List.mem_of_getElem? (i := 2) rfl)
theorem kw_14_3 : Cond.code yX7_strengthOf cX7_strengthOf 3 (some .int) ∈ wsL_law := kr_14 _ (List.mem_of_getElem? (i := 3) rfl)
theorem kw_14_4 : Cond.methodLink RX7 148 yX7_seatsOf ∈ wsL_law := kr_14 _ (List.mem_of_getElem? (i := 4) rfl)
theorem kw_14_5 : Cond.instanceMethod yX7_seatsOf ∈ wsL_law := kr_14 _ (List.mem_of_getElem? (i := 5) rfl)
theorem kw_14_6 : Cond.selects RX7 yX7_seatsOf yX7_seatsOf ∈ wsL_law := kr_14 _ (List.mem_of_getElem? (i := 6) rfl)
theorem kw_14_7 : Cond.code yX7_seatsOf cX7_seatsOf 4 (some .int) ∈ wsL_law := kr_14 _ (List.mem_of_getElem? (i := 7) rfl)
theorem kw_14_8 : Cond.methodLink RX7 152 yX7_soundsOf ∈ wsL_law := kr_14 _ (List.mem_of_getElem? (i := 8) rfl)
theorem kw_14_9 : Cond.instanceMethod yX7_soundsOf ∈ wsL_law := kr_14 _ (List.mem_of_getElem? (i := 9) rfl)
theorem kw_14_10 : Cond.selects RX7 yX7_soundsOf yX7_soundsOf ∈ wsL_law := kr_14 _ (List.mem_of_getElem? (i := 10) rfl)
theorem kw_14_11 : Cond.code yX7_soundsOf cX7_soundsOf 4 (some .int) ∈ wsL_law := kr_14 _ (List.mem_of_getElem? (i := 11) rfl)
theorem kw_14_12 : Cond.methodLink RX7 367 yX7_says ∈ wsL_law := kr_14 _ (List.mem_of_getElem? (i := 12) rfl)
theorem kw_14_13 : Cond.instanceMethod yX7_says ∈ wsL_law := kr_14 _ (List.mem_of_getElem? (i := 13) rfl)
theorem kw_14_14 : Cond.selects RX7 yX7_says yX7_says ∈ wsL_law := kr_14 _ (List.mem_of_getElem? (i := 14) rfl)
theorem kw_14_15 : Cond.code yX7_says cX7_says 4 (some .int) ∈ wsL_law := kr_14 _ (List.mem_of_getElem? (i := 15) rfl)
theorem kw_14_16 : Cond.fieldLink RX7 216 "StreetTillTenModel" "ofStrength" "I" ∈ wsL_law := kr_14 _ (List.mem_of_getElem? (i := 16) rfl)
theorem kw_14_17 : Cond.fieldLink RX7 219 "StreetTillTenModel" "ofNumber" "I" ∈ wsL_law := kr_14 _ (List.mem_of_getElem? (i := 17) rfl)
theorem kw_14_18 : Cond.fieldLink RX7 222 "StreetTillTenModel" "ofOther" "I" ∈ wsL_law := kr_14 _ (List.mem_of_getElem? (i := 18) rfl)
theorem kw_14_19 : Cond.fieldLink RX7 225 "StreetTillTenModel" "ofSeats" "I" ∈ wsL_law := kr_14 _ (List.mem_of_getElem? (i := 19) rfl)
theorem kw_14_20 : Cond.fieldLink RX7 228 "StreetTillTenModel" "ofYear" "I" ∈ wsL_law := kr_14 _ (List.mem_of_getElem? (i := 20) rfl)
theorem kw_14_21 : Cond.fieldLink RX7 231 "StreetTillTenModel" "ofApart" "I" ∈ wsL_law := kr_14 _ (List.mem_of_getElem? (i := 21) rfl)
theorem kw_14_22 : Cond.fieldLink RX7 124 "StreetTillTenModel" "rule" "I" ∈ wsL_law := kr_14 _ (List.mem_of_getElem? (i := 22) rfl)
theorem kw_14_23 : Cond.methodLink RX7 364 yX7_apart ∈ wsL_law := kr_14 _ (List.mem_of_getElem? (i := 23) rfl)
theorem kw_15_0 : Cond.static yX7_apart ∈ wsL_law := kr_15 _ (List.mem_of_getElem? (i := 0) rfl)
theorem kw_15_1 : Cond.code yX7_apart cX7_apart 2 (some .int) ∈ wsL_law := kr_15 _ (List.mem_of_getElem? (i := 1) rfl)
theorem kw_15_2 : Cond.methodLink RX7 361 yX7_read ∈ wsL_law := kr_15 _ (List.mem_of_getElem? (i := 2) rfl)
theorem kw_15_3 : Cond.instanceMethod yX7_read ∈ wsL_law := kr_15 _ (List.mem_of_getElem? (i := 3) rfl)
theorem kw_15_4 : Cond.selects RX7 yX7_read yX7_read ∈ wsL_law := kr_15 _ (List.mem_of_getElem? (i := 4) rfl)
theorem kw_15_5 : Cond.code yX7_read cX7_read 6 (some .int) ∈ wsL_law := kr_15 _ (List.mem_of_getElem? (i := 5) rfl)
theorem kw_15_6 : Cond.fieldLink RX7 166 "StreetTillTenModel" "from" "I" ∈ wsL_law := kr_15 _ (List.mem_of_getElem? (i := 6) rfl)
theorem kw_15_7 : Cond.fieldLink RX7 163 "StreetTillTenModel" "size" "I" ∈ wsL_law := kr_15 _ (List.mem_of_getElem? (i := 7) rfl)
theorem kw_15_8 : Cond.fieldLink RX7 169 "StreetTillTenModel" "here" "I" ∈ wsL_law := kr_15 _ (List.mem_of_getElem? (i := 8) rfl)
theorem kw_15_9 : Cond.fieldLink RX7 203 "StreetTillTenModel" "open" "I" ∈ wsL_law := kr_15 _ (List.mem_of_getElem? (i := 9) rfl)
theorem kw_15_10 : Cond.fieldLink RX7 193 "StreetTillTenModel" "bad" "Z" ∈ wsL_law := kr_15 _ (List.mem_of_getElem? (i := 10) rfl)
theorem kw_15_11 : Cond.fieldLink RX7 178 "StreetTillTenModel" "token" "I" ∈ wsL_law := kr_15 _ (List.mem_of_getElem? (i := 11) rfl)
theorem kw_15_12 : Cond.methodLink RX7 209 yX7_next ∈ wsL_law := kr_15 _ (List.mem_of_getElem? (i := 12) rfl)
theorem kw_15_13 : Cond.instanceMethod yX7_next ∈ wsL_law := kr_15 _ (List.mem_of_getElem? (i := 13) rfl)
theorem kw_15_14 : Cond.selects RX7 yX7_next yX7_next ∈ wsL_law := kr_15 _ (List.mem_of_getElem? (i := 14) rfl)
theorem kw_15_15 : Cond.code yX7_next cX7_next 3 none ∈ wsL_law := kr_15 _ (List.mem_of_getElem? (i := 15) rfl)
theorem kw_15_16 : Cond.fieldLink RX7 175 "StreetTillTenModel" "tokenAt" "I" ∈ wsL_law := kr_15 _ (List.mem_of_getElem? (i := 16) rfl)
theorem kw_15_17 : Cond.constantLong RX7 181 (97) ∈ wsL_law := kr_15 _ (List.mem_of_getElem? (i := 17) rfl)
theorem kw_15_18 : Cond.constantLong RX7 183 (122) ∈ wsL_law := kr_15 _ (List.mem_of_getElem? (i := 18) rfl)
theorem kw_15_19 : Cond.constantLong RX7 185 (48) ∈ wsL_law := kr_15 _ (List.mem_of_getElem? (i := 19) rfl)
theorem kw_15_20 : Cond.constantLong RX7 187 (57) ∈ wsL_law := kr_15 _ (List.mem_of_getElem? (i := 20) rfl)
theorem kw_15_21 : Cond.fieldLink RX7 189 "StreetTillTenModel" "tokenWorth" "J" ∈ wsL_law := kr_15 _ (List.mem_of_getElem? (i := 21) rfl)
theorem kw_15_22 : Cond.methodLink RX7 172 yX7_byteAt ∈ wsL_law := kr_15 _ (List.mem_of_getElem? (i := 22) rfl)
theorem kw_15_23 : Cond.instanceMethod yX7_byteAt ∈ wsL_law := kr_15 _ (List.mem_of_getElem? (i := 23) rfl)
theorem kw_16_0 : Cond.selects RX7 yX7_byteAt yX7_byteAt ∈ wsL_law := kr_16 _ (List.mem_of_getElem? (i := 0) rfl)
theorem kw_16_1 : Cond.code yX7_byteAt cX7_byteAt 2 (some .int) ∈ wsL_law := kr_16 _ (List.mem_of_getElem? (i := 1) rfl)
theorem kw_16_2 : Cond.methodLink RX7 212 yX7_isWord ∈ wsL_law := kr_16 _ (List.mem_of_getElem? (i := 2) rfl)
theorem kw_16_3 : Cond.instanceMethod yX7_isWord ∈ wsL_law := kr_16 _ (List.mem_of_getElem? (i := 3) rfl)
theorem kw_16_4 : Cond.selects RX7 yX7_isWord yX7_isWord ∈ wsL_law := kr_16 _ (List.mem_of_getElem? (i := 4) rfl)
theorem kw_16_5 : Cond.code yX7_isWord cX7_isWord 9 (some .boolean) ∈ wsL_law := kr_16 _ (List.mem_of_getElem? (i := 5) rfl)
theorem kw_16_6 : Cond.methodLink RX7 200 yX7_isLetter ∈ wsL_law := kr_16 _ (List.mem_of_getElem? (i := 6) rfl)
theorem kw_16_7 : Cond.instanceMethod yX7_isLetter ∈ wsL_law := kr_16 _ (List.mem_of_getElem? (i := 7) rfl)
theorem kw_16_8 : Cond.selects RX7 yX7_isLetter yX7_isLetter ∈ wsL_law := kr_16 _ (List.mem_of_getElem? (i := 8) rfl)
theorem kw_16_9 : Cond.code yX7_isLetter cX7_isLetter 3 (some .boolean) ∈ wsL_law := kr_16 _ (List.mem_of_getElem? (i := 9) rfl)
theorem kw_16_10 : Cond.methodLink RX7 357 yX7_part ∈ wsL_law := kr_16 _ (List.mem_of_getElem? (i := 10) rfl)
theorem kw_16_11 : Cond.instanceMethod yX7_part ∈ wsL_law := kr_16 _ (List.mem_of_getElem? (i := 11) rfl)
theorem kw_16_12 : Cond.selects RX7 yX7_part yX7_part ∈ wsL_law := kr_16 _ (List.mem_of_getElem? (i := 12) rfl)
theorem kw_16_13 : Cond.code yX7_part cX7_part 3 (some .int) ∈ wsL_law := kr_16 _ (List.mem_of_getElem? (i := 13) rfl)
theorem kw_16_14 : Cond.methodLink RX7 206 yX7_fail ∈ wsL_law := kr_16 _ (List.mem_of_getElem? (i := 14) rfl)
theorem kw_16_15 : Cond.instanceMethod yX7_fail ∈ wsL_law := kr_16 _ (List.mem_of_getElem? (i := 15) rfl)
theorem kw_16_16 : Cond.selects RX7 yX7_fail yX7_fail ∈ wsL_law := kr_16 _ (List.mem_of_getElem? (i := 16) rfl)
theorem kw_16_17 : Cond.code yX7_fail cX7_fail 1 none ∈ wsL_law := kr_16 _ (List.mem_of_getElem? (i := 17) rfl)
theorem kw_16_18 : Cond.fieldLink RX7 197 "StreetTillTenModel" "fault" "I" ∈ wsL_law := kr_16 _ (List.mem_of_getElem? (i := 18) rfl)
theorem kw_16_19 : Cond.methodLink RX7 354 yX7_either0 ∈ wsL_law := kr_16 _ (List.mem_of_getElem? (i := 19) rfl)
theorem kw_16_20 : Cond.instanceMethod yX7_either0 ∈ wsL_law := kr_16 _ (List.mem_of_getElem? (i := 20) rfl)
theorem kw_16_21 : Cond.selects RX7 yX7_either0 yX7_either0 ∈ wsL_law := kr_16 _ (List.mem_of_getElem? (i := 21) rfl)
theorem kw_16_22 : Cond.code yX7_either0 cX7_either0 3 (some .int) ∈ wsL_law := kr_16 _ (List.mem_of_getElem? (i := 22) rfl)
theorem kw_16_23 : Cond.methodLink RX7 351 yX7_both0 ∈ wsL_law := kr_16 _ (List.mem_of_getElem? (i := 23) rfl)
theorem kw_17_0 : Cond.instanceMethod yX7_both0 ∈ wsL_law := kr_17 _ (List.mem_of_getElem? (i := 0) rfl)
theorem kw_17_1 : Cond.selects RX7 yX7_both0 yX7_both0 ∈ wsL_law := kr_17 _ (List.mem_of_getElem? (i := 1) rfl)
theorem kw_17_2 : Cond.code yX7_both0 cX7_both0 3 (some .int) ∈ wsL_law := kr_17 _ (List.mem_of_getElem? (i := 2) rfl)
theorem kw_17_3 : Cond.methodLink RX7 348 yX7_not0 ∈ wsL_law := kr_17 _ (List.mem_of_getElem? (i := 3) rfl)
theorem kw_17_4 : Cond.instanceMethod yX7_not0 ∈ wsL_law := kr_17 _ (List.mem_of_getElem? (i := 4) rfl)
theorem kw_17_5 : Cond.selects RX7 yX7_not0 yX7_not0 ∈ wsL_law := kr_17 _ (List.mem_of_getElem? (i := 5) rfl)
theorem kw_17_6 : Cond.code yX7_not0 cX7_not0 4 (some .int) ∈ wsL_law := kr_17 _ (List.mem_of_getElem? (i := 6) rfl)
theorem kw_17_7 : Cond.constantLong RX7 256 (60) ∈ wsL_law := kr_17 _ (List.mem_of_getElem? (i := 7) rfl)
theorem kw_17_8 : Cond.methodLink RX7 237 yX7_opens ∈ wsL_law := kr_17 _ (List.mem_of_getElem? (i := 8) rfl)
theorem kw_17_9 : Cond.instanceMethod yX7_opens ∈ wsL_law := kr_17 _ (List.mem_of_getElem? (i := 9) rfl)
theorem kw_17_10 : Cond.selects RX7 yX7_opens yX7_opens ∈ wsL_law := kr_17 _ (List.mem_of_getElem? (i := 10) rfl)
theorem kw_17_11 : Cond.code yX7_opens cX7_opens 1 (some .boolean) ∈ wsL_law := kr_17 _ (List.mem_of_getElem? (i := 11) rfl)
theorem kw_17_12 : Cond.methodLink RX7 330 yX7_not1 ∈ wsL_law := kr_17 _ (List.mem_of_getElem? (i := 12) rfl)
theorem kw_17_13 : Cond.instanceMethod yX7_not1 ∈ wsL_law := kr_17 _ (List.mem_of_getElem? (i := 13) rfl)
theorem kw_17_14 : Cond.selects RX7 yX7_not1 yX7_not1 ∈ wsL_law := kr_17 _ (List.mem_of_getElem? (i := 14) rfl)
theorem kw_17_15 : Cond.code yX7_not1 cX7_not1 4 (some .int) ∈ wsL_law := kr_17 _ (List.mem_of_getElem? (i := 15) rfl)
theorem kw_17_16 : Cond.methodLink RX7 312 yX7_not2 ∈ wsL_law := kr_17 _ (List.mem_of_getElem? (i := 16) rfl)
theorem kw_17_17 : Cond.instanceMethod yX7_not2 ∈ wsL_law := kr_17 _ (List.mem_of_getElem? (i := 17) rfl)
theorem kw_17_18 : Cond.selects RX7 yX7_not2 yX7_not2 ∈ wsL_law := kr_17 _ (List.mem_of_getElem? (i := 18) rfl)
theorem kw_17_19 : Cond.code yX7_not2 cX7_not2 4 (some .int) ∈ wsL_law := kr_17 _ (List.mem_of_getElem? (i := 19) rfl)
theorem kw_17_20 : Cond.methodLink RX7 294 yX7_not3 ∈ wsL_law := kr_17 _ (List.mem_of_getElem? (i := 20) rfl)
theorem kw_17_21 : Cond.instanceMethod yX7_not3 ∈ wsL_law := kr_17 _ (List.mem_of_getElem? (i := 21) rfl)
theorem kw_17_22 : Cond.selects RX7 yX7_not3 yX7_not3 ∈ wsL_law := kr_17 _ (List.mem_of_getElem? (i := 22) rfl)
theorem kw_17_23 : Cond.code yX7_not3 cX7_not3 4 (some .int) ∈ wsL_law := kr_17 _ (List.mem_of_getElem? (i := 23) rfl)
theorem kw_18_0 : Cond.methodLink RX7 276 yX7_not4 ∈ wsL_law := kr_18 _ (List.mem_of_getElem? (i := 0) rfl)
theorem kw_18_1 : Cond.instanceMethod yX7_not4 ∈ wsL_law := kr_18 _ (List.mem_of_getElem? (i := 1) rfl)
theorem kw_18_2 : Cond.selects RX7 yX7_not4 yX7_not4 ∈ wsL_law := kr_18 _ (List.mem_of_getElem? (i := 2) rfl)
theorem kw_18_3 : Cond.code yX7_not4 cX7_not4 4 (some .int) ∈ wsL_law := kr_18 _ (List.mem_of_getElem? (i := 3) rfl)
theorem kw_18_4 : Cond.methodLink RX7 258 yX7_not5 ∈ wsL_law := kr_18 _ (List.mem_of_getElem? (i := 4) rfl)
theorem kw_18_5 : Cond.instanceMethod yX7_not5 ∈ wsL_law := kr_18 _ (List.mem_of_getElem? (i := 5) rfl)
theorem kw_18_6 : Cond.selects RX7 yX7_not5 yX7_not5 ∈ wsL_law := kr_18 _ (List.mem_of_getElem? (i := 6) rfl)
theorem kw_18_7 : Cond.code yX7_not5 cX7_not5 4 (some .int) ∈ wsL_law := kr_18 _ (List.mem_of_getElem? (i := 7) rfl)
theorem kw_18_8 : Cond.methodLink RX7 253 yX7_added5 ∈ wsL_law := kr_18 _ (List.mem_of_getElem? (i := 8) rfl)
theorem kw_18_9 : Cond.instanceMethod yX7_added5 ∈ wsL_law := kr_18 _ (List.mem_of_getElem? (i := 9) rfl)
theorem kw_18_10 : Cond.selects RX7 yX7_added5 yX7_added5 ∈ wsL_law := kr_18 _ (List.mem_of_getElem? (i := 10) rfl)
theorem kw_18_11 : Cond.code yX7_added5 cX7_added5 4 (some .int) ∈ wsL_law := kr_18 _ (List.mem_of_getElem? (i := 11) rfl)
theorem kw_18_12 : Cond.constantLong RX7 251 (43) ∈ wsL_law := kr_18 _ (List.mem_of_getElem? (i := 12) rfl)
theorem kw_18_13 : Cond.methodLink RX7 248 yX7_term5 ∈ wsL_law := kr_18 _ (List.mem_of_getElem? (i := 13) rfl)
theorem kw_18_14 : Cond.instanceMethod yX7_term5 ∈ wsL_law := kr_18 _ (List.mem_of_getElem? (i := 14) rfl)
theorem kw_18_15 : Cond.selects RX7 yX7_term5 yX7_term5 ∈ wsL_law := kr_18 _ (List.mem_of_getElem? (i := 15) rfl)
theorem kw_18_16 : Cond.code yX7_term5 cX7_term5 2 (some .int) ∈ wsL_law := kr_18 _ (List.mem_of_getElem? (i := 16) rfl)
theorem kw_18_17 : Cond.methodLink RX7 245 yX7_atom5 ∈ wsL_law := kr_18 _ (List.mem_of_getElem? (i := 17) rfl)
theorem kw_18_18 : Cond.instanceMethod yX7_atom5 ∈ wsL_law := kr_18 _ (List.mem_of_getElem? (i := 18) rfl)
theorem kw_18_19 : Cond.selects RX7 yX7_atom5 yX7_atom5 ∈ wsL_law := kr_18 _ (List.mem_of_getElem? (i := 19) rfl)
theorem kw_18_20 : Cond.code yX7_atom5 cX7_atom5 2 (some .int) ∈ wsL_law := kr_18 _ (List.mem_of_getElem? (i := 20) rfl)
theorem kw_18_21 : Cond.methodLink RX7 234 yX7_isSign ∈ wsL_law := kr_18 _ (List.mem_of_getElem? (i := 21) rfl)
theorem kw_18_22 : Cond.instanceMethod yX7_isSign ∈ wsL_law := kr_18 _ (List.mem_of_getElem? (i := 22) rfl)
theorem kw_18_23 : Cond.selects RX7 yX7_isSign yX7_isSign ∈ wsL_law := kr_18 _ (List.mem_of_getElem? (i := 23) rfl)
theorem kw_19_0 : Cond.code yX7_isSign cX7_isSign 2 (some .boolean) ∈ wsL_law := kr_19 _ (List.mem_of_getElem? (i := 0) rfl)
theorem kw_19_1 : Cond.methodLink RX7 241 yX7_name ∈ wsL_law := kr_19 _ (List.mem_of_getElem? (i := 1) rfl)
theorem kw_19_2 : Cond.instanceMethod yX7_name ∈ wsL_law := kr_19 _ (List.mem_of_getElem? (i := 2) rfl)
theorem kw_19_3 : Cond.selects RX7 yX7_name yX7_name ∈ wsL_law := kr_19 _ (List.mem_of_getElem? (i := 3) rfl)
theorem kw_19_4 : Cond.code yX7_name cX7_name 1 (some .int) ∈ wsL_law := kr_19 _ (List.mem_of_getElem? (i := 4) rfl)
theorem kw_19_5 : Cond.methodLink RX7 273 yX7_added4 ∈ wsL_law := kr_19 _ (List.mem_of_getElem? (i := 5) rfl)
theorem kw_19_6 : Cond.instanceMethod yX7_added4 ∈ wsL_law := kr_19 _ (List.mem_of_getElem? (i := 6) rfl)
theorem kw_19_7 : Cond.selects RX7 yX7_added4 yX7_added4 ∈ wsL_law := kr_19 _ (List.mem_of_getElem? (i := 7) rfl)
theorem kw_19_8 : Cond.code yX7_added4 cX7_added4 4 (some .int) ∈ wsL_law := kr_19 _ (List.mem_of_getElem? (i := 8) rfl)
theorem kw_19_9 : Cond.methodLink RX7 270 yX7_term4 ∈ wsL_law := kr_19 _ (List.mem_of_getElem? (i := 9) rfl)
theorem kw_19_10 : Cond.instanceMethod yX7_term4 ∈ wsL_law := kr_19 _ (List.mem_of_getElem? (i := 10) rfl)
theorem kw_19_11 : Cond.selects RX7 yX7_term4 yX7_term4 ∈ wsL_law := kr_19 _ (List.mem_of_getElem? (i := 11) rfl)
theorem kw_19_12 : Cond.code yX7_term4 cX7_term4 2 (some .int) ∈ wsL_law := kr_19 _ (List.mem_of_getElem? (i := 12) rfl)
theorem kw_19_13 : Cond.methodLink RX7 267 yX7_atom4 ∈ wsL_law := kr_19 _ (List.mem_of_getElem? (i := 13) rfl)
theorem kw_19_14 : Cond.instanceMethod yX7_atom4 ∈ wsL_law := kr_19 _ (List.mem_of_getElem? (i := 14) rfl)
theorem kw_19_15 : Cond.selects RX7 yX7_atom4 yX7_atom4 ∈ wsL_law := kr_19 _ (List.mem_of_getElem? (i := 15) rfl)
theorem kw_19_16 : Cond.code yX7_atom4 cX7_atom4 2 (some .int) ∈ wsL_law := kr_19 _ (List.mem_of_getElem? (i := 16) rfl)
theorem kw_19_17 : Cond.methodLink RX7 264 yX7_either5 ∈ wsL_law := kr_19 _ (List.mem_of_getElem? (i := 17) rfl)
theorem kw_19_18 : Cond.instanceMethod yX7_either5 ∈ wsL_law := kr_19 _ (List.mem_of_getElem? (i := 18) rfl)
theorem kw_19_19 : Cond.selects RX7 yX7_either5 yX7_either5 ∈ wsL_law := kr_19 _ (List.mem_of_getElem? (i := 19) rfl)
theorem kw_19_20 : Cond.code yX7_either5 cX7_either5 3 (some .int) ∈ wsL_law := kr_19 _ (List.mem_of_getElem? (i := 20) rfl)
theorem kw_19_21 : Cond.methodLink RX7 261 yX7_both5 ∈ wsL_law := kr_19 _ (List.mem_of_getElem? (i := 21) rfl)
theorem kw_19_22 : Cond.instanceMethod yX7_both5 ∈ wsL_law := kr_19 _ (List.mem_of_getElem? (i := 22) rfl)
theorem kw_19_23 : Cond.selects RX7 yX7_both5 yX7_both5 ∈ wsL_law := kr_19 _ (List.mem_of_getElem? (i := 23) rfl)
theorem kw_20_0 : Cond.code yX7_both5 cX7_both5 3 (some .int) ∈ wsL_law := kr_20 _ (List.mem_of_getElem? (i := 0) rfl)
theorem kw_20_1 : Cond.methodLink RX7 291 yX7_added3 ∈ wsL_law := kr_20 _ (List.mem_of_getElem? (i := 1) rfl)
theorem kw_20_2 : Cond.instanceMethod yX7_added3 ∈ wsL_law := kr_20 _ (List.mem_of_getElem? (i := 2) rfl)
theorem kw_20_3 : Cond.selects RX7 yX7_added3 yX7_added3 ∈ wsL_law := kr_20 _ (List.mem_of_getElem? (i := 3) rfl)
theorem kw_20_4 : Cond.code yX7_added3 cX7_added3 4 (some .int) ∈ wsL_law := kr_20 _ (List.mem_of_getElem? (i := 4) rfl)
theorem kw_20_5 : Cond.methodLink RX7 288 yX7_term3 ∈ wsL_law := kr_20 _ (List.mem_of_getElem? (i := 5) rfl)
theorem kw_20_6 : Cond.instanceMethod yX7_term3 ∈ wsL_law := kr_20 _ (List.mem_of_getElem? (i := 6) rfl)
theorem kw_20_7 : Cond.selects RX7 yX7_term3 yX7_term3 ∈ wsL_law := kr_20 _ (List.mem_of_getElem? (i := 7) rfl)
theorem kw_20_8 : Cond.code yX7_term3 cX7_term3 2 (some .int) ∈ wsL_law := kr_20 _ (List.mem_of_getElem? (i := 8) rfl)
theorem kw_20_9 : Cond.methodLink RX7 285 yX7_atom3 ∈ wsL_law := kr_20 _ (List.mem_of_getElem? (i := 9) rfl)
theorem kw_20_10 : Cond.instanceMethod yX7_atom3 ∈ wsL_law := kr_20 _ (List.mem_of_getElem? (i := 10) rfl)
theorem kw_20_11 : Cond.selects RX7 yX7_atom3 yX7_atom3 ∈ wsL_law := kr_20 _ (List.mem_of_getElem? (i := 11) rfl)
theorem kw_20_12 : Cond.code yX7_atom3 cX7_atom3 2 (some .int) ∈ wsL_law := kr_20 _ (List.mem_of_getElem? (i := 12) rfl)
theorem kw_20_13 : Cond.methodLink RX7 282 yX7_either4 ∈ wsL_law := kr_20 _ (List.mem_of_getElem? (i := 13) rfl)
theorem kw_20_14 : Cond.instanceMethod yX7_either4 ∈ wsL_law := kr_20 _ (List.mem_of_getElem? (i := 14) rfl)
theorem kw_20_15 : Cond.selects RX7 yX7_either4 yX7_either4 ∈ wsL_law := kr_20 _ (List.mem_of_getElem? (i := 15) rfl)
theorem kw_20_16 : Cond.code yX7_either4 cX7_either4 3 (some .int) ∈ wsL_law := kr_20 _ (List.mem_of_getElem? (i := 16) rfl)
theorem kw_20_17 : Cond.methodLink RX7 279 yX7_both4 ∈ wsL_law := kr_20 _ (List.mem_of_getElem? (i := 17) rfl)
theorem kw_20_18 : Cond.instanceMethod yX7_both4 ∈ wsL_law := kr_20 _ (List.mem_of_getElem? (i := 18) rfl)
theorem kw_20_19 : Cond.selects RX7 yX7_both4 yX7_both4 ∈ wsL_law := kr_20 _ (List.mem_of_getElem? (i := 19) rfl)
theorem kw_20_20 : Cond.code yX7_both4 cX7_both4 3 (some .int) ∈ wsL_law := kr_20 _ (List.mem_of_getElem? (i := 20) rfl)
theorem kw_20_21 : Cond.methodLink RX7 309 yX7_added2 ∈ wsL_law := kr_20 _ (List.mem_of_getElem? (i := 21) rfl)
theorem kw_20_22 : Cond.instanceMethod yX7_added2 ∈ wsL_law := kr_20 _ (List.mem_of_getElem? (i := 22) rfl)
theorem kw_20_23 : Cond.selects RX7 yX7_added2 yX7_added2 ∈ wsL_law := kr_20 _ (List.mem_of_getElem? (i := 23) rfl)
theorem kw_21_0 : Cond.code yX7_added2 cX7_added2 4 (some .int) ∈ wsL_law := kr_21 _ (List.mem_of_getElem? (i := 0) rfl)
theorem kw_21_1 : Cond.methodLink RX7 306 yX7_term2 ∈ wsL_law := kr_21 _ (List.mem_of_getElem? (i := 1) rfl)
theorem kw_21_2 : Cond.instanceMethod yX7_term2 ∈ wsL_law := kr_21 _ (List.mem_of_getElem? (i := 2) rfl)
theorem kw_21_3 : Cond.selects RX7 yX7_term2 yX7_term2 ∈ wsL_law := kr_21 _ (List.mem_of_getElem? (i := 3) rfl)
theorem kw_21_4 : Cond.code yX7_term2 cX7_term2 2 (some .int) ∈ wsL_law := kr_21 _ (List.mem_of_getElem? (i := 4) rfl)
theorem kw_21_5 : Cond.methodLink RX7 303 yX7_atom2 ∈ wsL_law := kr_21 _ (List.mem_of_getElem? (i := 5) rfl)
theorem kw_21_6 : Cond.instanceMethod yX7_atom2 ∈ wsL_law := kr_21 _ (List.mem_of_getElem? (i := 6) rfl)
theorem kw_21_7 : Cond.selects RX7 yX7_atom2 yX7_atom2 ∈ wsL_law := kr_21 _ (List.mem_of_getElem? (i := 7) rfl)
theorem kw_21_8 : Cond.code yX7_atom2 cX7_atom2 2 (some .int) ∈ wsL_law := kr_21 _ (List.mem_of_getElem? (i := 8) rfl)
theorem kw_21_9 : Cond.methodLink RX7 300 yX7_either3 ∈ wsL_law := kr_21 _ (List.mem_of_getElem? (i := 9) rfl)
theorem kw_21_10 : Cond.instanceMethod yX7_either3 ∈ wsL_law := kr_21 _ (List.mem_of_getElem? (i := 10) rfl)
theorem kw_21_11 : Cond.selects RX7 yX7_either3 yX7_either3 ∈ wsL_law := kr_21 _ (List.mem_of_getElem? (i := 11) rfl)
theorem kw_21_12 : Cond.code yX7_either3 cX7_either3 3 (some .int) ∈ wsL_law := kr_21 _ (List.mem_of_getElem? (i := 12) rfl)
theorem kw_21_13 : Cond.methodLink RX7 297 yX7_both3 ∈ wsL_law := kr_21 _ (List.mem_of_getElem? (i := 13) rfl)
theorem kw_21_14 : Cond.instanceMethod yX7_both3 ∈ wsL_law := kr_21 _ (List.mem_of_getElem? (i := 14) rfl)
theorem kw_21_15 : Cond.selects RX7 yX7_both3 yX7_both3 ∈ wsL_law := kr_21 _ (List.mem_of_getElem? (i := 15) rfl)
theorem kw_21_16 : Cond.code yX7_both3 cX7_both3 3 (some .int) ∈ wsL_law := kr_21 _ (List.mem_of_getElem? (i := 16) rfl)
theorem kw_21_17 : Cond.methodLink RX7 327 yX7_added1 ∈ wsL_law := kr_21 _ (List.mem_of_getElem? (i := 17) rfl)
theorem kw_21_18 : Cond.instanceMethod yX7_added1 ∈ wsL_law := kr_21 _ (List.mem_of_getElem? (i := 18) rfl)
theorem kw_21_19 : Cond.selects RX7 yX7_added1 yX7_added1 ∈ wsL_law := kr_21 _ (List.mem_of_getElem? (i := 19) rfl)
theorem kw_21_20 : Cond.code yX7_added1 cX7_added1 4 (some .int) ∈ wsL_law := kr_21 _ (List.mem_of_getElem? (i := 20) rfl)
theorem kw_21_21 : Cond.methodLink RX7 324 yX7_term1 ∈ wsL_law := kr_21 _ (List.mem_of_getElem? (i := 21) rfl)
theorem kw_21_22 : Cond.instanceMethod yX7_term1 ∈ wsL_law := kr_21 _ (List.mem_of_getElem? (i := 22) rfl)
theorem kw_21_23 : Cond.selects RX7 yX7_term1 yX7_term1 ∈ wsL_law := kr_21 _ (List.mem_of_getElem? (i := 23) rfl)
theorem kw_22_0 : Cond.code yX7_term1 cX7_term1 2 (some .int) ∈ wsL_law := kr_22 _ (List.mem_of_getElem? (i := 0) rfl)
theorem kw_22_1 : Cond.methodLink RX7 321 yX7_atom1 ∈ wsL_law := kr_22 _ (List.mem_of_getElem? (i := 1) rfl)
theorem kw_22_2 : Cond.instanceMethod yX7_atom1 ∈ wsL_law := kr_22 _ (List.mem_of_getElem? (i := 2) rfl)
theorem kw_22_3 : Cond.selects RX7 yX7_atom1 yX7_atom1 ∈ wsL_law := kr_22 _ (List.mem_of_getElem? (i := 3) rfl)
theorem kw_22_4 : Cond.code yX7_atom1 cX7_atom1 2 (some .int) ∈ wsL_law := kr_22 _ (List.mem_of_getElem? (i := 4) rfl)
theorem kw_22_5 : Cond.methodLink RX7 318 yX7_either2 ∈ wsL_law := kr_22 _ (List.mem_of_getElem? (i := 5) rfl)
theorem kw_22_6 : Cond.instanceMethod yX7_either2 ∈ wsL_law := kr_22 _ (List.mem_of_getElem? (i := 6) rfl)
theorem kw_22_7 : Cond.selects RX7 yX7_either2 yX7_either2 ∈ wsL_law := kr_22 _ (List.mem_of_getElem? (i := 7) rfl)
theorem kw_22_8 : Cond.code yX7_either2 cX7_either2 3 (some .int) ∈ wsL_law := kr_22 _ (List.mem_of_getElem? (i := 8) rfl)
theorem kw_22_9 : Cond.methodLink RX7 315 yX7_both2 ∈ wsL_law := kr_22 _ (List.mem_of_getElem? (i := 9) rfl)
theorem kw_22_10 : Cond.instanceMethod yX7_both2 ∈ wsL_law := kr_22 _ (List.mem_of_getElem? (i := 10) rfl)
theorem kw_22_11 : Cond.selects RX7 yX7_both2 yX7_both2 ∈ wsL_law := kr_22 _ (List.mem_of_getElem? (i := 11) rfl)
theorem kw_22_12 : Cond.code yX7_both2 cX7_both2 3 (some .int) ∈ wsL_law := kr_22 _ (List.mem_of_getElem? (i := 12) rfl)
theorem kw_22_13 : Cond.methodLink RX7 345 yX7_added0 ∈ wsL_law := kr_22 _ (List.mem_of_getElem? (i := 13) rfl)
theorem kw_22_14 : Cond.instanceMethod yX7_added0 ∈ wsL_law := kr_22 _ (List.mem_of_getElem? (i := 14) rfl)
theorem kw_22_15 : Cond.selects RX7 yX7_added0 yX7_added0 ∈ wsL_law := kr_22 _ (List.mem_of_getElem? (i := 15) rfl)
theorem kw_22_16 : Cond.code yX7_added0 cX7_added0 4 (some .int) ∈ wsL_law := kr_22 _ (List.mem_of_getElem? (i := 16) rfl)
theorem kw_22_17 : Cond.methodLink RX7 342 yX7_term0 ∈ wsL_law := kr_22 _ (List.mem_of_getElem? (i := 17) rfl)
theorem kw_22_18 : Cond.instanceMethod yX7_term0 ∈ wsL_law := kr_22 _ (List.mem_of_getElem? (i := 18) rfl)
theorem kw_22_19 : Cond.selects RX7 yX7_term0 yX7_term0 ∈ wsL_law := kr_22 _ (List.mem_of_getElem? (i := 19) rfl)
theorem kw_22_20 : Cond.code yX7_term0 cX7_term0 2 (some .int) ∈ wsL_law := kr_22 _ (List.mem_of_getElem? (i := 20) rfl)
theorem kw_22_21 : Cond.methodLink RX7 339 yX7_atom0 ∈ wsL_law := kr_22 _ (List.mem_of_getElem? (i := 21) rfl)
theorem kw_22_22 : Cond.instanceMethod yX7_atom0 ∈ wsL_law := kr_22 _ (List.mem_of_getElem? (i := 22) rfl)
theorem kw_22_23 : Cond.selects RX7 yX7_atom0 yX7_atom0 ∈ wsL_law := kr_22 _ (List.mem_of_getElem? (i := 23) rfl)
theorem kw_23_0 : Cond.code yX7_atom0 cX7_atom0 2 (some .int) ∈ wsL_law := kr_23 _ (List.mem_of_getElem? (i := 0) rfl)
theorem kw_23_1 : Cond.methodLink RX7 336 yX7_either1 ∈ wsL_law := kr_23 _ (List.mem_of_getElem? (i := 1) rfl)
theorem kw_23_2 : Cond.instanceMethod yX7_either1 ∈ wsL_law := kr_23 _ (List.mem_of_getElem? (i := 2) rfl)
theorem kw_23_3 : Cond.selects RX7 yX7_either1 yX7_either1 ∈ wsL_law := kr_23 _ (List.mem_of_getElem? (i := 3) rfl)
theorem kw_23_4 : Cond.code yX7_either1 cX7_either1 3 (some .int) ∈ wsL_law := kr_23 _ (List.mem_of_getElem? (i := 4) rfl)
theorem kw_23_5 : Cond.methodLink RX7 333 yX7_both1 ∈ wsL_law := kr_23 _ (List.mem_of_getElem? (i := 5) rfl)
theorem kw_23_6 : Cond.instanceMethod yX7_both1 ∈ wsL_law := kr_23 _ (List.mem_of_getElem? (i := 6) rfl)
theorem kw_23_7 : Cond.selects RX7 yX7_both1 yX7_both1 ∈ wsL_law := kr_23 _ (List.mem_of_getElem? (i := 7) rfl)
theorem kw_23_8 : Cond.code yX7_both1 cX7_both1 3 (some .int) ∈ wsL_law := kr_23 _ (List.mem_of_getElem? (i := 8) rfl)
theorem kw_23_9 : Cond.methodLink RX7 127 yX7_within ∈ wsL_law := kr_23 _ (List.mem_of_getElem? (i := 9) rfl)
theorem kw_23_10 : Cond.static yX7_within ∈ wsL_law := kr_23 _ (List.mem_of_getElem? (i := 10) rfl)
theorem kw_23_11 : Cond.code yX7_within cX7_within 3 (some .int) ∈ wsL_law := kr_23 _ (List.mem_of_getElem? (i := 11) rfl)
theorem kw_23_12 : Cond.methodLink RX7 155 yX7_knows ∈ wsL_law := kr_23 _ (List.mem_of_getElem? (i := 12) rfl)
theorem kw_23_13 : Cond.instanceMethod yX7_knows ∈ wsL_law := kr_23 _ (List.mem_of_getElem? (i := 13) rfl)
theorem kw_23_14 : Cond.selects RX7 yX7_knows yX7_knows ∈ wsL_law := kr_23 _ (List.mem_of_getElem? (i := 14) rfl)
theorem kw_23_15 : Cond.code yX7_knows cX7_knows 3 (some .boolean) ∈ wsL_law := kr_23 _ (List.mem_of_getElem? (i := 15) rfl)
theorem kw_23_16 : Cond.methodLink RX7 117 yX7_lays ∈ wsL_law := kr_23 _ (List.mem_of_getElem? (i := 16) rfl)
theorem kw_23_17 : Cond.instanceMethod yX7_lays ∈ wsL_law := kr_23 _ (List.mem_of_getElem? (i := 17) rfl)
theorem kw_23_18 : Cond.selects RX7 yX7_lays yX7_lays ∈ wsL_law := kr_23 _ (List.mem_of_getElem? (i := 18) rfl)
theorem kw_23_19 : Cond.code yX7_lays cX7_lays 4 none ∈ wsL_law := kr_23 _ (List.mem_of_getElem? (i := 19) rfl)
theorem kw_23_21 : Cond.instanceMethod yX6_house ∈ wsL_law := kr_23 _ (List.mem_of_getElem? (i := 21) rfl)
theorem kw_23_22 : Cond.selects RX6 yX6_house yX6_house ∈ wsL_law := kr_23 _ (List.mem_of_getElem? (i := 22) rfl)
theorem kw_23_23 : Cond.code yX6_house cX6_house 3 (some .int) ∈ wsL_law := kr_23 _ (List.mem_of_getElem? (i := 23) rfl)
theorem kw_24_0 : Cond.methodLink RX6 116 yX6_settle ∈ wsL_law := kr_24 _ (List.mem_of_getElem? (i := 0) rfl)
theorem kw_24_1 : Cond.instanceMethod yX6_settle ∈ wsL_law := kr_24 _ (List.mem_of_getElem? (i := 1) rfl)
theorem kw_24_2 : Cond.selects RX6 yX6_settle yX6_settle ∈ wsL_law := kr_24 _ (List.mem_of_getElem? (i := 2) rfl)
theorem kw_24_3 : Cond.code yX6_settle cX6_settle 3 (some .int) ∈ wsL_law := kr_24 _ (List.mem_of_getElem? (i := 3) rfl)
theorem kw_24_4 : Cond.methodLink RX6 283 yX3_add ∈ wsL_law := kr_24 _ (List.mem_of_getElem? (i := 4) rfl)
theorem kw_24_5 : Cond.instanceMethod yX3_add ∈ wsL_law := kr_24 _ (List.mem_of_getElem? (i := 5) rfl)
theorem kw_24_6 : Cond.selects RX3 yX3_add yX3_add ∈ wsL_law := kr_24 _ (List.mem_of_getElem? (i := 6) rfl)
theorem kw_24_7 : Cond.code yX3_add cX3_add 3 none ∈ wsL_law := kr_24 _ (List.mem_of_getElem? (i := 7) rfl)
theorem kw_24_8 : Cond.fieldLink RX3 42 "StreetTillTen$Street" "count" "I" ∈ wsL_law := kr_24 _ (List.mem_of_getElem? (i := 8) rfl)
theorem kw_24_10 : Cond.instanceMethod yX7_house ∈ wsL_law := kr_24 _ (List.mem_of_getElem? (i := 10) rfl)
theorem kw_24_11 : Cond.selects RX7 yX7_house yX7_house ∈ wsL_law := kr_24 _ (List.mem_of_getElem? (i := 11) rfl)
theorem kw_24_12 : Cond.code yX7_house cX7_house 4 (some .int) ∈ wsL_law := kr_24 _ (List.mem_of_getElem? (i := 12) rfl)
theorem kw_24_13 : Cond.constantLong RX7 131 (5) ∈ wsL_law := kr_24 _ (List.mem_of_getElem? (i := 13) rfl)
theorem kw_24_14 : Cond.methodLink RX7 133 yX7_binds ∈ wsL_law := kr_24 _ (List.mem_of_getElem? (i := 14) rfl)
theorem kw_24_15 : Cond.instanceMethod yX7_binds ∈ wsL_law := kr_24 _ (List.mem_of_getElem? (i := 15) rfl)
theorem kw_24_16 : Cond.selects RX7 yX7_binds yX7_binds ∈ wsL_law := kr_24 _ (List.mem_of_getElem? (i := 16) rfl)
theorem kw_24_17 : Cond.code yX7_binds cX7_binds 5 none ∈ wsL_law := kr_24 _ (List.mem_of_getElem? (i := 17) rfl)
theorem kw_24_19 : Cond.instanceMethod yX6_bind ∈ wsL_law := kr_24 _ (List.mem_of_getElem? (i := 19) rfl)
theorem kw_24_20 : Cond.selects RX6 yX6_bind yX6_bind ∈ wsL_law := kr_24 _ (List.mem_of_getElem? (i := 20) rfl)
theorem kw_24_21 : Cond.code yX6_bind cX6_bind 5 (some .int) ∈ wsL_law := kr_24 _ (List.mem_of_getElem? (i := 21) rfl)
theorem kw_24_22 : Cond.fieldLink RX6 123 "StreetTillTen$Street" "strength" "[[I" ∈ wsL_law := kr_24 _ (List.mem_of_getElem? (i := 22) rfl)
theorem kw_24_23 : Cond.methodLink RX6 119 yX6_isTwo ∈ wsL_law := kr_24 _ (List.mem_of_getElem? (i := 23) rfl)
theorem kw_25_0 : Cond.instanceMethod yX6_isTwo ∈ wsL_law := kr_25 _ (List.mem_of_getElem? (i := 0) rfl)
theorem kw_25_1 : Cond.selects RX6 yX6_isTwo yX6_isTwo ∈ wsL_law := kr_25 _ (List.mem_of_getElem? (i := 1) rfl)
theorem kw_25_2 : Cond.code yX6_isTwo cX6_isTwo 3 (some .boolean) ∈ wsL_law := kr_25 _ (List.mem_of_getElem? (i := 2) rfl)
theorem kw_25_3 : Cond.methodLink RX6 127 yX3_tie ∈ wsL_law := kr_25 _ (List.mem_of_getElem? (i := 3) rfl)
theorem kw_25_4 : Cond.instanceMethod yX3_tie ∈ wsL_law := kr_25 _ (List.mem_of_getElem? (i := 4) rfl)
theorem kw_25_5 : Cond.selects RX3 yX3_tie yX3_tie ∈ wsL_law := kr_25 _ (List.mem_of_getElem? (i := 5) rfl)
theorem kw_25_6 : Cond.code yX3_tie cX3_tie 4 none ∈ wsL_law := kr_25 _ (List.mem_of_getElem? (i := 6) rfl)
theorem kw_25_8 : Cond.instanceMethod yX7_bind ∈ wsL_law := kr_25 _ (List.mem_of_getElem? (i := 8) rfl)
theorem kw_25_9 : Cond.selects RX7 yX7_bind yX7_bind ∈ wsL_law := kr_25 _ (List.mem_of_getElem? (i := 9) rfl)
theorem kw_25_10 : Cond.code yX7_bind cX7_bind 5 (some .int) ∈ wsL_law := kr_25 _ (List.mem_of_getElem? (i := 10) rfl)
theorem kw_25_11 : Cond.methodLink RX7 136 yX7_areTwo ∈ wsL_law := kr_25 _ (List.mem_of_getElem? (i := 11) rfl)
theorem kw_25_12 : Cond.instanceMethod yX7_areTwo ∈ wsL_law := kr_25 _ (List.mem_of_getElem? (i := 12) rfl)
theorem kw_25_13 : Cond.selects RX7 yX7_areTwo yX7_areTwo ∈ wsL_law := kr_25 _ (List.mem_of_getElem? (i := 13) rfl)
theorem kw_25_14 : Cond.code yX7_areTwo cX7_areTwo 3 (some .boolean) ∈ wsL_law := kr_25 _ (List.mem_of_getElem? (i := 14) rfl)
theorem kw_25_16 : Cond.instanceMethod yX6_told ∈ wsL_law := kr_25 _ (List.mem_of_getElem? (i := 16) rfl)
theorem kw_25_17 : Cond.selects RX6 yX6_told yX6_told ∈ wsL_law := kr_25 _ (List.mem_of_getElem? (i := 17) rfl)
theorem kw_25_18 : Cond.code yX6_told cX6_told 4 (some .int) ∈ wsL_law := kr_25 _ (List.mem_of_getElem? (i := 18) rfl)
theorem kw_25_19 : Cond.fieldLink RX6 131 "StreetTillTen$Street" "kind" "[I" ∈ wsL_law := kr_25 _ (List.mem_of_getElem? (i := 19) rfl)
theorem kw_25_20 : Cond.methodLink RX6 134 yX3_acquaintances ∈ wsL_law := kr_25 _ (List.mem_of_getElem? (i := 20) rfl)
theorem kw_25_21 : Cond.instanceMethod yX3_acquaintances ∈ wsL_law := kr_25 _ (List.mem_of_getElem? (i := 21) rfl)
theorem kw_25_22 : Cond.selects RX3 yX3_acquaintances yX3_acquaintances ∈ wsL_law := kr_25 _ (List.mem_of_getElem? (i := 22) rfl)
theorem kw_25_23 : Cond.code yX3_acquaintances cX3_acquaintances 4 (some .int) ∈ wsL_law := kr_25 _ (List.mem_of_getElem? (i := 23) rfl)
theorem kw_26_0 : Cond.methodLink RX3 51 yX3_knows ∈ wsL_law := kr_26 _ (List.mem_of_getElem? (i := 0) rfl)
theorem kw_26_1 : Cond.instanceMethod yX3_knows ∈ wsL_law := kr_26 _ (List.mem_of_getElem? (i := 1) rfl)
theorem kw_26_2 : Cond.selects RX3 yX3_knows yX3_knows ∈ wsL_law := kr_26 _ (List.mem_of_getElem? (i := 2) rfl)
theorem kw_26_3 : Cond.code yX3_knows cX3_knows 3 (some .boolean) ∈ wsL_law := kr_26 _ (List.mem_of_getElem? (i := 3) rfl)
theorem kw_26_4 : Cond.methodLink RX6 138 yX3_seatsAt ∈ wsL_law := kr_26 _ (List.mem_of_getElem? (i := 4) rfl)
theorem kw_26_5 : Cond.instanceMethod yX3_seatsAt ∈ wsL_law := kr_26 _ (List.mem_of_getElem? (i := 5) rfl)
theorem kw_26_6 : Cond.selects RX3 yX3_seatsAt yX3_seatsAt ∈ wsL_law := kr_26 _ (List.mem_of_getElem? (i := 6) rfl)
theorem kw_26_7 : Cond.code yX3_seatsAt cX3_seatsAt 4 (some .int) ∈ wsL_law := kr_26 _ (List.mem_of_getElem? (i := 7) rfl)
theorem kw_26_8 : Cond.methodLink RX6 141 yX3_sounds ∈ wsL_law := kr_26 _ (List.mem_of_getElem? (i := 8) rfl)
theorem kw_26_9 : Cond.instanceMethod yX3_sounds ∈ wsL_law := kr_26 _ (List.mem_of_getElem? (i := 9) rfl)
theorem kw_26_10 : Cond.selects RX3 yX3_sounds yX3_sounds ∈ wsL_law := kr_26 _ (List.mem_of_getElem? (i := 10) rfl)
theorem kw_26_11 : Cond.code yX3_sounds cX3_sounds 3 (some .int) ∈ wsL_law := kr_26 _ (List.mem_of_getElem? (i := 11) rfl)
theorem kw_26_12 : Cond.methodLink RX3 59 yX3_look ∈ wsL_law := kr_26 _ (List.mem_of_getElem? (i := 12) rfl)
theorem kw_26_13 : Cond.instanceMethod yX3_look ∈ wsL_law := kr_26 _ (List.mem_of_getElem? (i := 13) rfl)
theorem kw_26_14 : Cond.selects RX3 yX3_look yX3_look ∈ wsL_law := kr_26 _ (List.mem_of_getElem? (i := 14) rfl)
theorem kw_26_15 : Cond.code yX3_look cX3_look 3 none ∈ wsL_law := kr_26 _ (List.mem_of_getElem? (i := 15) rfl)
theorem kw_26_16 : Cond.fieldLink RX3 39 "StreetTillTen$Street" "year" "I" ∈ wsL_law := kr_26 _ (List.mem_of_getElem? (i := 16) rfl)
theorem kw_26_17 : Cond.methodLink RX3 67 Lib.Math.abs.name ∈ wsL_law := kr_26 _ (List.mem_of_getElem? (i := 17) rfl)
theorem kw_26_18 : Cond.static Lib.Math.abs.name ∈ wsL_law := kr_26 _ (List.mem_of_getElem? (i := 18) rfl)
theorem kw_26_19 : Cond.initialized "java/lang/Math" ∈ wsL_law := kr_26 _ (List.mem_of_getElem? (i := 19) rfl)
theorem kw_26_20 : Cond.code Lib.Math.abs.name Lib.Math.abs.code 1 (some .int) ∈ wsL_law := kr_26 _ (List.mem_of_getElem? (i := 20) rfl)
theorem kw_26_21 : Cond.methodLink RX3 55 yX3_seatsAt ∈ wsL_law := kr_26 _ (List.mem_of_getElem? (i := 21) rfl)
theorem kw_26_22 : Cond.methodLink RX3 63 yX5_value ∈ wsL_law := kr_26 _ (List.mem_of_getElem? (i := 22) rfl)
theorem kw_26_23 : Cond.instanceMethod yX5_value ∈ wsL_law := kr_26 _ (List.mem_of_getElem? (i := 23) rfl)
theorem kw_27_0 : Cond.selects RX5 yX5_value yX5_value ∈ wsL_law := kr_27 _ (List.mem_of_getElem? (i := 0) rfl)
theorem kw_27_1 : Cond.code yX5_value cX5_value 7 (some .int) ∈ wsL_law := kr_27 _ (List.mem_of_getElem? (i := 1) rfl)
theorem kw_27_2 : Cond.methodLink RX5 36 Lib.Math.min.name ∈ wsL_law := kr_27 _ (List.mem_of_getElem? (i := 2) rfl)
theorem kw_27_3 : Cond.static Lib.Math.min.name ∈ wsL_law := kr_27 _ (List.mem_of_getElem? (i := 3) rfl)
theorem kw_27_4 : Cond.code Lib.Math.min.name Lib.Math.min.code 2 (some .int) ∈ wsL_law := kr_27 _ (List.mem_of_getElem? (i := 4) rfl)
theorem kw_27_5 : Cond.methodLink RX5 41 Lib.Math.max.name ∈ wsL_law := kr_27 _ (List.mem_of_getElem? (i := 5) rfl)
theorem kw_27_6 : Cond.static Lib.Math.max.name ∈ wsL_law := kr_27 _ (List.mem_of_getElem? (i := 6) rfl)
theorem kw_27_7 : Cond.code Lib.Math.max.name Lib.Math.max.code 2 (some .int) ∈ wsL_law := kr_27 _ (List.mem_of_getElem? (i := 7) rfl)
theorem kw_27_8 : Cond.methodLink RX5 28 yX5_turned ∈ wsL_law := kr_27 _ (List.mem_of_getElem? (i := 8) rfl)
theorem kw_27_9 : Cond.static yX5_turned ∈ wsL_law := kr_27 _ (List.mem_of_getElem? (i := 9) rfl)
theorem kw_27_10 : Cond.code yX5_turned cX5_turned 2 (some .int) ∈ wsL_law := kr_27 _ (List.mem_of_getElem? (i := 10) rfl)
theorem kw_27_11 : Cond.methodLink RX5 32 yX5_joined ∈ wsL_law := kr_27 _ (List.mem_of_getElem? (i := 11) rfl)
theorem kw_27_12 : Cond.static yX5_joined ∈ wsL_law := kr_27 _ (List.mem_of_getElem? (i := 12) rfl)
theorem kw_27_13 : Cond.code yX5_joined cX5_joined 3 (some .int) ∈ wsL_law := kr_27 _ (List.mem_of_getElem? (i := 13) rfl)
theorem kw_27_16 : Cond.instanceMethod yX6_feed ∈ wsL_law := kr_27 _ (List.mem_of_getElem? (i := 16) rfl)
theorem kw_27_17 : Cond.selects RX6 yX6_feed yX6_feed ∈ wsL_law := kr_27 _ (List.mem_of_getElem? (i := 17) rfl)
theorem kw_27_18 : Cond.code yX6_feed cX6_feed 2 (some .int) ∈ wsL_law := kr_27 _ (List.mem_of_getElem? (i := 18) rfl)
theorem kw_27_19 : Cond.fieldLink RX6 144 "StreetTillTen$Tape" "size" "I" ∈ wsL_law := kr_27 _ (List.mem_of_getElem? (i := 19) rfl)
theorem kw_27_21 : Cond.instanceMethod yX7_feed ∈ wsL_law := kr_27 _ (List.mem_of_getElem? (i := 21) rfl)
theorem kw_27_22 : Cond.selects RX7 yX7_feed yX7_feed ∈ wsL_law := kr_27 _ (List.mem_of_getElem? (i := 22) rfl)
theorem kw_27_23 : Cond.code yX7_feed cX7_feed 2 (some .int) ∈ wsL_law := kr_27 _ (List.mem_of_getElem? (i := 23) rfl)
theorem kw_28_0 : Cond.constantLong RX7 158 (255) ∈ wsL_law := kr_28 _ (List.mem_of_getElem? (i := 0) rfl)
theorem kw_28_1 : Cond.fieldLink RX7 160 "StreetTillTenModel" "taped" "I" ∈ wsL_law := kr_28 _ (List.mem_of_getElem? (i := 1) rfl)
theorem kw_28_3 : Cond.instanceMethod yX6_text ∈ wsL_law := kr_28 _ (List.mem_of_getElem? (i := 3) rfl)
theorem kw_28_4 : Cond.selects RX6 yX6_text yX6_text ∈ wsL_law := kr_28 _ (List.mem_of_getElem? (i := 4) rfl)
theorem kw_28_5 : Cond.code yX6_text cX6_text 2 (some .int) ∈ wsL_law := kr_28 _ (List.mem_of_getElem? (i := 5) rfl)
theorem kw_28_7 : Cond.instanceMethod yX7_text ∈ wsL_law := kr_28 _ (List.mem_of_getElem? (i := 7) rfl)
theorem kw_28_8 : Cond.selects RX7 yX7_text yX7_text ∈ wsL_law := kr_28 _ (List.mem_of_getElem? (i := 8) rfl)
theorem kw_28_9 : Cond.code yX7_text cX7_text 2 (some .int) ∈ wsL_law := kr_28 _ (List.mem_of_getElem? (i := 9) rfl)
theorem kw_28_11 : Cond.instanceMethod yX6_force ∈ wsL_law := kr_28 _ (List.mem_of_getElem? (i := 11) rfl)
theorem kw_28_12 : Cond.selects RX6 yX6_force yX6_force ∈ wsL_law := kr_28 _ (List.mem_of_getElem? (i := 12) rfl)
theorem kw_28_13 : Cond.code yX6_force cX6_force 3 (some .int) ∈ wsL_law := kr_28 _ (List.mem_of_getElem? (i := 13) rfl)
theorem kw_28_14 : Cond.fieldLink RX6 147 "StreetTillTen$Street" "rule" "LStreetTillTen$Text;" ∈ wsL_law := kr_28 _ (List.mem_of_getElem? (i := 14) rfl)
theorem kw_28_15 : Cond.fieldLink RX6 151 "StreetTillTen$Text" "place" "I" ∈ wsL_law := kr_28 _ (List.mem_of_getElem? (i := 15) rfl)
theorem kw_28_17 : Cond.instanceMethod yX7_force ∈ wsL_law := kr_28 _ (List.mem_of_getElem? (i := 17) rfl)
theorem kw_28_18 : Cond.selects RX7 yX7_force yX7_force ∈ wsL_law := kr_28 _ (List.mem_of_getElem? (i := 18) rfl)
theorem kw_28_19 : Cond.code yX7_force cX7_force 3 (some .int) ∈ wsL_law := kr_28 _ (List.mem_of_getElem? (i := 19) rfl)
theorem kw_28_21 : Cond.instanceMethod yX6_asks ∈ wsL_law := kr_28 _ (List.mem_of_getElem? (i := 21) rfl)
theorem kw_28_22 : Cond.selects RX6 yX6_asks yX6_asks ∈ wsL_law := kr_28 _ (List.mem_of_getElem? (i := 22) rfl)
theorem kw_28_23 : Cond.code yX6_asks cX6_asks 4 (some .int) ∈ wsL_law := kr_28 _ (List.mem_of_getElem? (i := 23) rfl)
theorem kw_29_0 : Cond.methodLink RX6 154 yX6_isEither ∈ wsL_law := kr_29 _ (List.mem_of_getElem? (i := 0) rfl)
theorem kw_29_1 : Cond.static yX6_isEither ∈ wsL_law := kr_29 _ (List.mem_of_getElem? (i := 1) rfl)
theorem kw_29_2 : Cond.code yX6_isEither cX6_isEither 1 (some .boolean) ∈ wsL_law := kr_29 _ (List.mem_of_getElem? (i := 2) rfl)
theorem kw_29_3 : Cond.methodLink RX6 157 yX3_meets ∈ wsL_law := kr_29 _ (List.mem_of_getElem? (i := 3) rfl)
theorem kw_29_4 : Cond.instanceMethod yX3_meets ∈ wsL_law := kr_29 _ (List.mem_of_getElem? (i := 4) rfl)
theorem kw_29_5 : Cond.selects RX3 yX3_meets yX3_meets ∈ wsL_law := kr_29 _ (List.mem_of_getElem? (i := 5) rfl)
theorem kw_29_6 : Cond.code yX3_meets cX3_meets 4 (some .int) ∈ wsL_law := kr_29 _ (List.mem_of_getElem? (i := 6) rfl)
theorem kw_29_7 : Cond.methodLink RX6 160 yX3_forgets ∈ wsL_law := kr_29 _ (List.mem_of_getElem? (i := 7) rfl)
theorem kw_29_8 : Cond.instanceMethod yX3_forgets ∈ wsL_law := kr_29 _ (List.mem_of_getElem? (i := 8) rfl)
theorem kw_29_9 : Cond.selects RX3 yX3_forgets yX3_forgets ∈ wsL_law := kr_29 _ (List.mem_of_getElem? (i := 9) rfl)
theorem kw_29_10 : Cond.code yX3_forgets cX3_forgets 4 (some .int) ∈ wsL_law := kr_29 _ (List.mem_of_getElem? (i := 10) rfl)
theorem kw_29_12 : Cond.instanceMethod yX7_asks ∈ wsL_law := kr_29 _ (List.mem_of_getElem? (i := 12) rfl)
theorem kw_29_13 : Cond.selects RX7 yX7_asks yX7_asks ∈ wsL_law := kr_29 _ (List.mem_of_getElem? (i := 13) rfl)
theorem kw_29_14 : Cond.code yX7_asks cX7_asks 4 (some .int) ∈ wsL_law := kr_29 _ (List.mem_of_getElem? (i := 14) rfl)
theorem kw_29_15 : Cond.methodLink RX7 370 yX7_meetsOf ∈ wsL_law := kr_29 _ (List.mem_of_getElem? (i := 15) rfl)
theorem kw_29_16 : Cond.instanceMethod yX7_meetsOf ∈ wsL_law := kr_29 _ (List.mem_of_getElem? (i := 16) rfl)
theorem kw_29_17 : Cond.selects RX7 yX7_meetsOf yX7_meetsOf ∈ wsL_law := kr_29 _ (List.mem_of_getElem? (i := 17) rfl)
theorem kw_29_18 : Cond.code yX7_meetsOf cX7_meetsOf 5 (some .int) ∈ wsL_law := kr_29 _ (List.mem_of_getElem? (i := 18) rfl)
theorem kw_29_19 : Cond.methodLink RX7 373 yX7_fadesOf ∈ wsL_law := kr_29 _ (List.mem_of_getElem? (i := 19) rfl)
theorem kw_29_20 : Cond.instanceMethod yX7_fadesOf ∈ wsL_law := kr_29 _ (List.mem_of_getElem? (i := 20) rfl)
theorem kw_29_21 : Cond.selects RX7 yX7_fadesOf yX7_fadesOf ∈ wsL_law := kr_29 _ (List.mem_of_getElem? (i := 21) rfl)
theorem kw_29_22 : Cond.code yX7_fadesOf cX7_fadesOf 5 (some .int) ∈ wsL_law := kr_29 _ (List.mem_of_getElem? (i := 22) rfl)
theorem kw_30_0 : Cond.instanceMethod yX6_feast ∈ wsL_law := kr_30 _ (List.mem_of_getElem? (i := 0) rfl)
theorem kw_30_1 : Cond.selects RX6 yX6_feast yX6_feast ∈ wsL_law := kr_30 _ (List.mem_of_getElem? (i := 1) rfl)
theorem kw_30_2 : Cond.code yX6_feast cX6_feast 1 (some .int) ∈ wsL_law := kr_30 _ (List.mem_of_getElem? (i := 2) rfl)
theorem kw_30_3 : Cond.methodLink RX6 163 yX3_holdFeast ∈ wsL_law := kr_30 _ (List.mem_of_getElem? (i := 3) rfl)
theorem kw_30_4 : Cond.instanceMethod yX3_holdFeast ∈ wsL_law := kr_30 _ (List.mem_of_getElem? (i := 4) rfl)
theorem kw_30_5 : Cond.selects RX3 yX3_holdFeast yX3_holdFeast ∈ wsL_law := kr_30 _ (List.mem_of_getElem? (i := 5) rfl)
theorem kw_30_6 : Cond.code yX3_holdFeast cX3_holdFeast 4 none ∈ wsL_law := kr_30 _ (List.mem_of_getElem? (i := 6) rfl)
theorem kw_30_7 : Cond.methodLink RX3 76 Lib.Math.min.name ∈ wsL_law := kr_30 _ (List.mem_of_getElem? (i := 7) rfl)
theorem kw_30_8 : Cond.methodLink RX3 72 yX3_meets ∈ wsL_law := kr_30 _ (List.mem_of_getElem? (i := 8) rfl)
theorem kw_30_9 : Cond.methodLink RX3 79 yX3_tie ∈ wsL_law := kr_30 _ (List.mem_of_getElem? (i := 9) rfl)
theorem kw_30_10 : Cond.methodLink RX6 166 yX3_friends ∈ wsL_law := kr_30 _ (List.mem_of_getElem? (i := 10) rfl)
theorem kw_30_11 : Cond.instanceMethod yX3_friends ∈ wsL_law := kr_30 _ (List.mem_of_getElem? (i := 11) rfl)
theorem kw_30_12 : Cond.selects RX3 yX3_friends yX3_friends ∈ wsL_law := kr_30 _ (List.mem_of_getElem? (i := 12) rfl)
theorem kw_30_13 : Cond.code yX3_friends cX3_friends 4 (some .int) ∈ wsL_law := kr_30 _ (List.mem_of_getElem? (i := 13) rfl)
theorem kw_30_15 : Cond.instanceMethod yX7_feast ∈ wsL_law := kr_30 _ (List.mem_of_getElem? (i := 15) rfl)
theorem kw_30_16 : Cond.selects RX7 yX7_feast yX7_feast ∈ wsL_law := kr_30 _ (List.mem_of_getElem? (i := 16) rfl)
theorem kw_30_17 : Cond.code yX7_feast cX7_feast 1 (some .int) ∈ wsL_law := kr_30 _ (List.mem_of_getElem? (i := 17) rfl)
theorem kw_30_18 : Cond.methodLink RX7 376 yX7_feasts ∈ wsL_law := kr_30 _ (List.mem_of_getElem? (i := 18) rfl)
theorem kw_30_19 : Cond.instanceMethod yX7_feasts ∈ wsL_law := kr_30 _ (List.mem_of_getElem? (i := 19) rfl)
theorem kw_30_20 : Cond.selects RX7 yX7_feasts yX7_feasts ∈ wsL_law := kr_30 _ (List.mem_of_getElem? (i := 20) rfl)
theorem kw_30_21 : Cond.code yX7_feasts cX7_feasts 4 none ∈ wsL_law := kr_30 _ (List.mem_of_getElem? (i := 21) rfl)
theorem kw_30_22 : Cond.methodLink RX7 379 yX7_friends ∈ wsL_law := kr_30 _ (List.mem_of_getElem? (i := 22) rfl)
theorem kw_30_23 : Cond.instanceMethod yX7_friends ∈ wsL_law := kr_30 _ (List.mem_of_getElem? (i := 23) rfl)
theorem kw_31_0 : Cond.selects RX7 yX7_friends yX7_friends ∈ wsL_law := kr_31 _ (List.mem_of_getElem? (i := 0) rfl)
theorem kw_31_1 : Cond.code yX7_friends cX7_friends 4 (some .int) ∈ wsL_law := kr_31 _ (List.mem_of_getElem? (i := 1) rfl)
theorem kw_31_3 : Cond.instanceMethod yX6_year ∈ wsL_law := kr_31 _ (List.mem_of_getElem? (i := 3) rfl)
theorem kw_31_4 : Cond.selects RX6 yX6_year yX6_year ∈ wsL_law := kr_31 _ (List.mem_of_getElem? (i := 4) rfl)
theorem kw_31_5 : Cond.code yX6_year cX6_year 1 (some .int) ∈ wsL_law := kr_31 _ (List.mem_of_getElem? (i := 5) rfl)
theorem kw_31_6 : Cond.methodLink RX6 169 yX3_endYear ∈ wsL_law := kr_31 _ (List.mem_of_getElem? (i := 6) rfl)
theorem kw_31_7 : Cond.instanceMethod yX3_endYear ∈ wsL_law := kr_31 _ (List.mem_of_getElem? (i := 7) rfl)
theorem kw_31_8 : Cond.selects RX3 yX3_endYear yX3_endYear ∈ wsL_law := kr_31 _ (List.mem_of_getElem? (i := 8) rfl)
theorem kw_31_9 : Cond.code yX3_endYear cX3_endYear 4 none ∈ wsL_law := kr_31 _ (List.mem_of_getElem? (i := 9) rfl)
theorem kw_31_10 : Cond.methodLink RX3 86 Lib.Math.max.name ∈ wsL_law := kr_31 _ (List.mem_of_getElem? (i := 10) rfl)
theorem kw_31_11 : Cond.methodLink RX3 83 yX3_forgets ∈ wsL_law := kr_31 _ (List.mem_of_getElem? (i := 11) rfl)
theorem kw_31_13 : Cond.instanceMethod yX7_year ∈ wsL_law := kr_31 _ (List.mem_of_getElem? (i := 13) rfl)
theorem kw_31_14 : Cond.selects RX7 yX7_year yX7_year ∈ wsL_law := kr_31 _ (List.mem_of_getElem? (i := 14) rfl)
theorem kw_31_15 : Cond.code yX7_year cX7_year 1 (some .int) ∈ wsL_law := kr_31 _ (List.mem_of_getElem? (i := 15) rfl)
theorem kw_31_16 : Cond.methodLink RX7 382 yX7_fades ∈ wsL_law := kr_31 _ (List.mem_of_getElem? (i := 16) rfl)
theorem kw_31_17 : Cond.instanceMethod yX7_fades ∈ wsL_law := kr_31 _ (List.mem_of_getElem? (i := 17) rfl)
theorem kw_31_18 : Cond.selects RX7 yX7_fades yX7_fades ∈ wsL_law := kr_31 _ (List.mem_of_getElem? (i := 18) rfl)
theorem kw_31_19 : Cond.code yX7_fades cX7_fades 4 none ∈ wsL_law := kr_31 _ (List.mem_of_getElem? (i := 19) rfl)
theorem kw_31_21 : Cond.instanceMethod yX6_street ∈ wsL_law := kr_31 _ (List.mem_of_getElem? (i := 21) rfl)
theorem kw_31_22 : Cond.selects RX6 yX6_street yX6_street ∈ wsL_law := kr_31 _ (List.mem_of_getElem? (i := 22) rfl)
theorem kw_31_23 : Cond.code yX6_street cX6_street 2 (some .int) ∈ wsL_law := kr_31 _ (List.mem_of_getElem? (i := 23) rfl)
theorem kw_32_0 : Cond.methodLink RX6 172 yX6_figure ∈ wsL_law := kr_32 _ (List.mem_of_getElem? (i := 0) rfl)
theorem kw_32_1 : Cond.instanceMethod yX6_figure ∈ wsL_law := kr_32 _ (List.mem_of_getElem? (i := 1) rfl)
theorem kw_32_2 : Cond.selects RX6 yX6_figure yX6_figure ∈ wsL_law := kr_32 _ (List.mem_of_getElem? (i := 2) rfl)
theorem kw_32_3 : Cond.code yX6_figure cX6_figure 3 (some .int) ∈ wsL_law := kr_32 _ (List.mem_of_getElem? (i := 3) rfl)
theorem kw_32_4 : Cond.methodLink RX6 176 yX0_see ∈ wsL_law := kr_32 _ (List.mem_of_getElem? (i := 4) rfl)
theorem kw_32_5 : Cond.instanceMethod yX0_see ∈ wsL_law := kr_32 _ (List.mem_of_getElem? (i := 5) rfl)
theorem kw_32_6 : Cond.selects RX0 yX0_see yX0_see ∈ wsL_law := kr_32 _ (List.mem_of_getElem? (i := 6) rfl)
theorem kw_32_7 : Cond.code yX0_see cX0_see 4 none ∈ wsL_law := kr_32 _ (List.mem_of_getElem? (i := 7) rfl)
theorem kw_32_8 : Cond.fieldLink RX0 15 "StreetTillTen$Street" "count" "I" ∈ wsL_law := kr_32 _ (List.mem_of_getElem? (i := 8) rfl)
theorem kw_32_9 : Cond.fieldLink RX0 21 "StreetTillTen$Circle" "count" "I" ∈ wsL_law := kr_32 _ (List.mem_of_getElem? (i := 9) rfl)
theorem kw_32_10 : Cond.methodLink RX0 22 yX3_knows ∈ wsL_law := kr_32 _ (List.mem_of_getElem? (i := 10) rfl)
theorem kw_32_11 : Cond.methodLink RX6 201 yX0_everyone ∈ wsL_law := kr_32 _ (List.mem_of_getElem? (i := 11) rfl)
theorem kw_32_12 : Cond.instanceMethod yX0_everyone ∈ wsL_law := kr_32 _ (List.mem_of_getElem? (i := 12) rfl)
theorem kw_32_13 : Cond.selects RX0 yX0_everyone yX0_everyone ∈ wsL_law := kr_32 _ (List.mem_of_getElem? (i := 13) rfl)
theorem kw_32_14 : Cond.code yX0_everyone cX0_everyone 1 (some .int) ∈ wsL_law := kr_32 _ (List.mem_of_getElem? (i := 14) rfl)
theorem kw_32_15 : Cond.methodLink RX6 204 yX0_companies ∈ wsL_law := kr_32 _ (List.mem_of_getElem? (i := 15) rfl)
theorem kw_32_16 : Cond.instanceMethod yX0_companies ∈ wsL_law := kr_32 _ (List.mem_of_getElem? (i := 16) rfl)
theorem kw_32_17 : Cond.selects RX0 yX0_companies yX0_companies ∈ wsL_law := kr_32 _ (List.mem_of_getElem? (i := 17) rfl)
theorem kw_32_18 : Cond.code yX0_companies cX0_companies 5 (some .int) ∈ wsL_law := kr_32 _ (List.mem_of_getElem? (i := 18) rfl)
theorem kw_32_19 : Cond.methodLink RX0 26 yX0_companyOf ∈ wsL_law := kr_32 _ (List.mem_of_getElem? (i := 19) rfl)
theorem kw_32_20 : Cond.instanceMethod yX0_companyOf ∈ wsL_law := kr_32 _ (List.mem_of_getElem? (i := 20) rfl)
theorem kw_32_21 : Cond.selects RX0 yX0_companyOf yX0_companyOf ∈ wsL_law := kr_32 _ (List.mem_of_getElem? (i := 21) rfl)
theorem kw_32_22 : Cond.code yX0_companyOf cX0_companyOf 5 (some .int) ∈ wsL_law := kr_32 _ (List.mem_of_getElem? (i := 22) rfl)
theorem kw_32_23 : Cond.methodLink RX0 45 yX0_further ∈ wsL_law := kr_32 _ (List.mem_of_getElem? (i := 23) rfl)
theorem kw_33_0 : Cond.instanceMethod yX0_further ∈ wsL_law := kr_33 _ (List.mem_of_getElem? (i := 0) rfl)
theorem kw_33_1 : Cond.selects RX0 yX0_further yX0_further ∈ wsL_law := kr_33 _ (List.mem_of_getElem? (i := 1) rfl)
theorem kw_33_2 : Cond.code yX0_further cX0_further 4 (some .int) ∈ wsL_law := kr_33 _ (List.mem_of_getElem? (i := 2) rfl)
theorem kw_33_3 : Cond.methodLink RX6 286 yX0_largestCompany ∈ wsL_law := kr_33 _ (List.mem_of_getElem? (i := 3) rfl)
theorem kw_33_4 : Cond.instanceMethod yX0_largestCompany ∈ wsL_law := kr_33 _ (List.mem_of_getElem? (i := 4) rfl)
theorem kw_33_5 : Cond.selects RX0 yX0_largestCompany yX0_largestCompany ∈ wsL_law := kr_33 _ (List.mem_of_getElem? (i := 5) rfl)
theorem kw_33_6 : Cond.code yX0_largestCompany cX0_largestCompany 3 (some .int) ∈ wsL_law := kr_33 _ (List.mem_of_getElem? (i := 6) rfl)
theorem kw_33_7 : Cond.methodLink RX0 40 Lib.Math.max.name ∈ wsL_law := kr_33 _ (List.mem_of_getElem? (i := 7) rfl)
theorem kw_33_8 : Cond.methodLink RX0 30 yX0_everyone ∈ wsL_law := kr_33 _ (List.mem_of_getElem? (i := 8) rfl)
theorem kw_33_9 : Cond.methodLink RX0 34 yJ6_bitCount_0f7a4 ∈ wsL_law := kr_33 _ (List.mem_of_getElem? (i := 9) rfl)
theorem kw_33_10 : Cond.static yJ6_bitCount_0f7a4 ∈ wsL_law := kr_33 _ (List.mem_of_getElem? (i := 10) rfl)
theorem kw_33_11 : Cond.initialized RJ6 ∈ wsL_law := kr_33 _ (List.mem_of_getElem? (i := 11) rfl)
theorem kw_33_12 : Cond.code yJ6_bitCount_0f7a4 cJ6_bitCount_0f7a4 1 (some .int) ∈ wsL_law := kr_33 _ (List.mem_of_getElem? (i := 12) rfl)
theorem kw_33_13 : Cond.constant RJ6 265 (1431655765) ∈ wsL_law := kr_33 _ (List.mem_of_getElem? (i := 13) rfl)
theorem kw_33_14 : Cond.constant RJ6 266 (858993459) ∈ wsL_law := kr_33 _ (List.mem_of_getElem? (i := 14) rfl)
theorem kw_33_15 : Cond.constant RJ6 267 (252645135) ∈ wsL_law := kr_33 _ (List.mem_of_getElem? (i := 15) rfl)
theorem kw_33_16 : Cond.methodLink RX6 289 yX3_allStrength ∈ wsL_law := kr_33 _ (List.mem_of_getElem? (i := 16) rfl)
theorem kw_33_17 : Cond.instanceMethod yX3_allStrength ∈ wsL_law := kr_33 _ (List.mem_of_getElem? (i := 17) rfl)
theorem kw_33_18 : Cond.selects RX3 yX3_allStrength yX3_allStrength ∈ wsL_law := kr_33 _ (List.mem_of_getElem? (i := 18) rfl)
theorem kw_33_19 : Cond.code yX3_allStrength cX3_allStrength 4 (some .int) ∈ wsL_law := kr_33 _ (List.mem_of_getElem? (i := 19) rfl)
theorem kw_33_20 : Cond.methodLink RX6 207 yX0_longestWay ∈ wsL_law := kr_33 _ (List.mem_of_getElem? (i := 20) rfl)
theorem kw_33_21 : Cond.instanceMethod yX0_longestWay ∈ wsL_law := kr_33 _ (List.mem_of_getElem? (i := 21) rfl)
theorem kw_33_22 : Cond.selects RX0 yX0_longestWay yX0_longestWay ∈ wsL_law := kr_33 _ (List.mem_of_getElem? (i := 22) rfl)
theorem kw_33_23 : Cond.code yX0_longestWay cX0_longestWay 6 (some .int) ∈ wsL_law := kr_33 _ (List.mem_of_getElem? (i := 23) rfl)
theorem kw_34_0 : Cond.methodLink RX0 48 yX0_distance ∈ wsL_law := kr_34 _ (List.mem_of_getElem? (i := 0) rfl)
theorem kw_34_1 : Cond.instanceMethod yX0_distance ∈ wsL_law := kr_34 _ (List.mem_of_getElem? (i := 1) rfl)
theorem kw_34_2 : Cond.selects RX0 yX0_distance yX0_distance ∈ wsL_law := kr_34 _ (List.mem_of_getElem? (i := 2) rfl)
theorem kw_34_3 : Cond.code yX0_distance cX0_distance 5 (some .int) ∈ wsL_law := kr_34 _ (List.mem_of_getElem? (i := 3) rfl)
theorem kw_34_4 : Cond.methodLink RX6 292 yX3_quietTable ∈ wsL_law := kr_34 _ (List.mem_of_getElem? (i := 4) rfl)
theorem kw_34_5 : Cond.instanceMethod yX3_quietTable ∈ wsL_law := kr_34 _ (List.mem_of_getElem? (i := 5) rfl)
theorem kw_34_6 : Cond.selects RX3 yX3_quietTable yX3_quietTable ∈ wsL_law := kr_34 _ (List.mem_of_getElem? (i := 6) rfl)
theorem kw_34_7 : Cond.code yX3_quietTable cX3_quietTable 5 (some .int) ∈ wsL_law := kr_34 _ (List.mem_of_getElem? (i := 7) rfl)
theorem kw_34_8 : Cond.methodLink RX3 99 yX3_dinAt ∈ wsL_law := kr_34 _ (List.mem_of_getElem? (i := 8) rfl)
theorem kw_34_9 : Cond.instanceMethod yX3_dinAt ∈ wsL_law := kr_34 _ (List.mem_of_getElem? (i := 9) rfl)
theorem kw_34_10 : Cond.selects RX3 yX3_dinAt yX3_dinAt ∈ wsL_law := kr_34 _ (List.mem_of_getElem? (i := 10) rfl)
theorem kw_34_11 : Cond.code yX3_dinAt cX3_dinAt 4 (some .int) ∈ wsL_law := kr_34 _ (List.mem_of_getElem? (i := 11) rfl)
theorem kw_34_12 : Cond.methodLink RX3 102 yX3_sounds ∈ wsL_law := kr_34 _ (List.mem_of_getElem? (i := 12) rfl)
theorem kw_34_14 : Cond.instanceMethod yX7_street ∈ wsL_law := kr_34 _ (List.mem_of_getElem? (i := 14) rfl)
theorem kw_34_15 : Cond.selects RX7 yX7_street yX7_street ∈ wsL_law := kr_34 _ (List.mem_of_getElem? (i := 15) rfl)
theorem kw_34_16 : Cond.code yX7_street cX7_street 2 (some .int) ∈ wsL_law := kr_34 _ (List.mem_of_getElem? (i := 16) rfl)
theorem kw_34_17 : Cond.methodLink RX7 400 yX7_quietest ∈ wsL_law := kr_34 _ (List.mem_of_getElem? (i := 17) rfl)
theorem kw_34_18 : Cond.instanceMethod yX7_quietest ∈ wsL_law := kr_34 _ (List.mem_of_getElem? (i := 18) rfl)
theorem kw_34_19 : Cond.selects RX7 yX7_quietest yX7_quietest ∈ wsL_law := kr_34 _ (List.mem_of_getElem? (i := 19) rfl)
theorem kw_34_20 : Cond.code yX7_quietest cX7_quietest 7 (some .int) ∈ wsL_law := kr_34 _ (List.mem_of_getElem? (i := 20) rfl)
theorem kw_34_21 : Cond.methodLink RX7 403 yX7_tellsOf ∈ wsL_law := kr_34 _ (List.mem_of_getElem? (i := 21) rfl)
theorem kw_34_22 : Cond.instanceMethod yX7_tellsOf ∈ wsL_law := kr_34 _ (List.mem_of_getElem? (i := 22) rfl)
theorem kw_34_23 : Cond.selects RX7 yX7_tellsOf yX7_tellsOf ∈ wsL_law := kr_34 _ (List.mem_of_getElem? (i := 23) rfl)
theorem kw_35_0 : Cond.code yX7_tellsOf cX7_tellsOf 2 (some .int) ∈ wsL_law := kr_35 _ (List.mem_of_getElem? (i := 0) rfl)
theorem kw_35_1 : Cond.methodLink RX7 385 yX7_waysAll ∈ wsL_law := kr_35 _ (List.mem_of_getElem? (i := 1) rfl)
theorem kw_35_2 : Cond.instanceMethod yX7_waysAll ∈ wsL_law := kr_35 _ (List.mem_of_getElem? (i := 2) rfl)
theorem kw_35_3 : Cond.selects RX7 yX7_waysAll yX7_waysAll ∈ wsL_law := kr_35 _ (List.mem_of_getElem? (i := 3) rfl)
theorem kw_35_4 : Cond.code yX7_waysAll cX7_waysAll 7 none ∈ wsL_law := kr_35 _ (List.mem_of_getElem? (i := 4) rfl)
theorem kw_35_5 : Cond.methodLink RX7 388 yX7_companies ∈ wsL_law := kr_35 _ (List.mem_of_getElem? (i := 5) rfl)
theorem kw_35_6 : Cond.instanceMethod yX7_companies ∈ wsL_law := kr_35 _ (List.mem_of_getElem? (i := 6) rfl)
theorem kw_35_7 : Cond.selects RX7 yX7_companies yX7_companies ∈ wsL_law := kr_35 _ (List.mem_of_getElem? (i := 7) rfl)
theorem kw_35_8 : Cond.code yX7_companies cX7_companies 5 (some .int) ∈ wsL_law := kr_35 _ (List.mem_of_getElem? (i := 8) rfl)
theorem kw_35_9 : Cond.methodLink RX7 391 yX7_largest ∈ wsL_law := kr_35 _ (List.mem_of_getElem? (i := 9) rfl)
theorem kw_35_10 : Cond.instanceMethod yX7_largest ∈ wsL_law := kr_35 _ (List.mem_of_getElem? (i := 10) rfl)
theorem kw_35_11 : Cond.selects RX7 yX7_largest yX7_largest ∈ wsL_law := kr_35 _ (List.mem_of_getElem? (i := 11) rfl)
theorem kw_35_12 : Cond.code yX7_largest cX7_largest 5 (some .int) ∈ wsL_law := kr_35 _ (List.mem_of_getElem? (i := 12) rfl)
theorem kw_35_13 : Cond.methodLink RX7 394 yX7_strengthAll ∈ wsL_law := kr_35 _ (List.mem_of_getElem? (i := 13) rfl)
theorem kw_35_14 : Cond.instanceMethod yX7_strengthAll ∈ wsL_law := kr_35 _ (List.mem_of_getElem? (i := 14) rfl)
theorem kw_35_15 : Cond.selects RX7 yX7_strengthAll yX7_strengthAll ∈ wsL_law := kr_35 _ (List.mem_of_getElem? (i := 15) rfl)
theorem kw_35_16 : Cond.code yX7_strengthAll cX7_strengthAll 4 (some .int) ∈ wsL_law := kr_35 _ (List.mem_of_getElem? (i := 16) rfl)
theorem kw_35_17 : Cond.methodLink RX7 397 yX7_longest ∈ wsL_law := kr_35 _ (List.mem_of_getElem? (i := 17) rfl)
theorem kw_35_18 : Cond.instanceMethod yX7_longest ∈ wsL_law := kr_35 _ (List.mem_of_getElem? (i := 18) rfl)
theorem kw_35_19 : Cond.selects RX7 yX7_longest yX7_longest ∈ wsL_law := kr_35 _ (List.mem_of_getElem? (i := 19) rfl)
theorem kw_35_20 : Cond.code yX7_longest cX7_longest 6 (some .int) ∈ wsL_law := kr_35 _ (List.mem_of_getElem? (i := 20) rfl)
theorem kw_35_22 : Cond.instanceMethod yX6_way ∈ wsL_law := kr_35 _ (List.mem_of_getElem? (i := 22) rfl)
theorem kw_35_23 : Cond.selects RX6 yX6_way yX6_way ∈ wsL_law := kr_35 _ (List.mem_of_getElem? (i := 23) rfl)
theorem kw_36_0 : Cond.code yX6_way cX6_way 3 (some .int) ∈ wsL_law := kr_36 _ (List.mem_of_getElem? (i := 0) rfl)
theorem kw_36_1 : Cond.methodLink RX6 180 yX0_distance ∈ wsL_law := kr_36 _ (List.mem_of_getElem? (i := 1) rfl)
theorem kw_36_3 : Cond.instanceMethod yX7_way ∈ wsL_law := kr_36 _ (List.mem_of_getElem? (i := 3) rfl)
theorem kw_36_4 : Cond.selects RX7 yX7_way yX7_way ∈ wsL_law := kr_36 _ (List.mem_of_getElem? (i := 4) rfl)
theorem kw_36_5 : Cond.code yX7_way cX7_way 3 (some .int) ∈ wsL_law := kr_36 _ (List.mem_of_getElem? (i := 5) rfl)
theorem kw_36_7 : Cond.instanceMethod yX6_run ∈ wsL_law := kr_36 _ (List.mem_of_getElem? (i := 7) rfl)
theorem kw_36_8 : Cond.selects RX6 yX6_run yX6_run ∈ wsL_law := kr_36 _ (List.mem_of_getElem? (i := 8) rfl)
theorem kw_36_9 : Cond.code yX6_run cX6_run 3 (some .int) ∈ wsL_law := kr_36 _ (List.mem_of_getElem? (i := 9) rfl)
theorem kw_36_10 : Cond.methodLink RX6 183 yX6_isYears ∈ wsL_law := kr_36 _ (List.mem_of_getElem? (i := 10) rfl)
theorem kw_36_11 : Cond.static yX6_isYears ∈ wsL_law := kr_36 _ (List.mem_of_getElem? (i := 11) rfl)
theorem kw_36_12 : Cond.code yX6_isYears cX6_isYears 1 (some .boolean) ∈ wsL_law := kr_36 _ (List.mem_of_getElem? (i := 12) rfl)
theorem kw_36_13 : Cond.methodLink RX6 186 yX3_become ∈ wsL_law := kr_36 _ (List.mem_of_getElem? (i := 13) rfl)
theorem kw_36_14 : Cond.instanceMethod yX3_become ∈ wsL_law := kr_36 _ (List.mem_of_getElem? (i := 14) rfl)
theorem kw_36_15 : Cond.selects RX3 yX3_become yX3_become ∈ wsL_law := kr_36 _ (List.mem_of_getElem? (i := 15) rfl)
theorem kw_36_16 : Cond.code yX3_become cX3_become 3 none ∈ wsL_law := kr_36 _ (List.mem_of_getElem? (i := 16) rfl)
theorem kw_36_17 : Cond.methodLink RX3 45 arraycopyName ∈ wsL_law := kr_36 _ (List.mem_of_getElem? (i := 17) rfl)
theorem kw_36_18 : Cond.native arraycopyName ∈ wsL_law := kr_36 _ (List.mem_of_getElem? (i := 18) rfl)
theorem kw_36_19 : Cond.static arraycopyName ∈ wsL_law := kr_36 _ (List.mem_of_getElem? (i := 19) rfl)
theorem kw_36_20 : Cond.initialized "java/lang/System" ∈ wsL_law := kr_36 _ (List.mem_of_getElem? (i := 20) rfl)
theorem kw_36_21 : Cond.methodLink RX6 189 yX3_pass ∈ wsL_law := kr_36 _ (List.mem_of_getElem? (i := 21) rfl)
theorem kw_36_22 : Cond.instanceMethod yX3_pass ∈ wsL_law := kr_36 _ (List.mem_of_getElem? (i := 22) rfl)
theorem kw_36_23 : Cond.selects RX3 yX3_pass yX3_pass ∈ wsL_law := kr_36 _ (List.mem_of_getElem? (i := 23) rfl)
theorem kw_37_0 : Cond.code yX3_pass cX3_pass 3 (some .int) ∈ wsL_law := kr_37 _ (List.mem_of_getElem? (i := 0) rfl)
theorem kw_37_1 : Cond.methodLink RX3 89 yX3_holdFeast ∈ wsL_law := kr_37 _ (List.mem_of_getElem? (i := 1) rfl)
theorem kw_37_2 : Cond.methodLink RX3 92 yX3_endYear ∈ wsL_law := kr_37 _ (List.mem_of_getElem? (i := 2) rfl)
theorem kw_37_3 : Cond.methodLink RX3 95 yX3_friends ∈ wsL_law := kr_37 _ (List.mem_of_getElem? (i := 3) rfl)
theorem kw_37_5 : Cond.instanceMethod yX7_run ∈ wsL_law := kr_37 _ (List.mem_of_getElem? (i := 5) rfl)
theorem kw_37_6 : Cond.selects RX7 yX7_run yX7_run ∈ wsL_law := kr_37 _ (List.mem_of_getElem? (i := 6) rfl)
theorem kw_37_7 : Cond.code yX7_run cX7_run 4 (some .int) ∈ wsL_law := kr_37 _ (List.mem_of_getElem? (i := 7) rfl)
theorem kw_37_8 : Cond.constantLong RX7 409 (20) ∈ wsL_law := kr_37 _ (List.mem_of_getElem? (i := 8) rfl)
theorem kw_37_9 : Cond.constantLong RX7 411 (4) ∈ wsL_law := kr_37 _ (List.mem_of_getElem? (i := 9) rfl)
theorem kw_37_10 : Cond.methodLink RX7 413 yX7_laysAside ∈ wsL_law := kr_37 _ (List.mem_of_getElem? (i := 10) rfl)
theorem kw_37_11 : Cond.instanceMethod yX7_laysAside ∈ wsL_law := kr_37 _ (List.mem_of_getElem? (i := 11) rfl)
theorem kw_37_12 : Cond.selects RX7 yX7_laysAside yX7_laysAside ∈ wsL_law := kr_37 _ (List.mem_of_getElem? (i := 12) rfl)
theorem kw_37_13 : Cond.code yX7_laysAside cX7_laysAside 2 none ∈ wsL_law := kr_37 _ (List.mem_of_getElem? (i := 13) rfl)
theorem kw_37_14 : Cond.fieldLink RX7 406 "StreetTillTenModel" "yearWas" "I" ∈ wsL_law := kr_37 _ (List.mem_of_getElem? (i := 14) rfl)
theorem kw_37_15 : Cond.methodLink RX7 416 yX7_lives ∈ wsL_law := kr_37 _ (List.mem_of_getElem? (i := 15) rfl)
theorem kw_37_16 : Cond.instanceMethod yX7_lives ∈ wsL_law := kr_37 _ (List.mem_of_getElem? (i := 16) rfl)
theorem kw_37_17 : Cond.selects RX7 yX7_lives yX7_lives ∈ wsL_law := kr_37 _ (List.mem_of_getElem? (i := 17) rfl)
theorem kw_37_18 : Cond.code yX7_lives cX7_lives 3 none ∈ wsL_law := kr_37 _ (List.mem_of_getElem? (i := 18) rfl)
theorem kw_37_19 : Cond.methodLink RX7 420 yX7_laysBack ∈ wsL_law := kr_37 _ (List.mem_of_getElem? (i := 19) rfl)
theorem kw_37_20 : Cond.instanceMethod yX7_laysBack ∈ wsL_law := kr_37 _ (List.mem_of_getElem? (i := 20) rfl)
theorem kw_37_21 : Cond.selects RX7 yX7_laysBack yX7_laysBack ∈ wsL_law := kr_37 _ (List.mem_of_getElem? (i := 21) rfl)
theorem kw_37_22 : Cond.code yX7_laysBack cX7_laysBack 2 none ∈ wsL_law := kr_37 _ (List.mem_of_getElem? (i := 22) rfl)
theorem kw_38_0 : Cond.instanceMethod yX6_takes ∈ wsL_law := kr_38 _ (List.mem_of_getElem? (i := 0) rfl)
theorem kw_38_1 : Cond.selects RX6 yX6_takes yX6_takes ∈ wsL_law := kr_38 _ (List.mem_of_getElem? (i := 1) rfl)
theorem kw_38_2 : Cond.code yX6_takes cX6_takes 4 (some .int) ∈ wsL_law := kr_38 _ (List.mem_of_getElem? (i := 2) rfl)
theorem kw_38_3 : Cond.methodLink RX6 192 yX6_isFriends ∈ wsL_law := kr_38 _ (List.mem_of_getElem? (i := 3) rfl)
theorem kw_38_4 : Cond.static yX6_isFriends ∈ wsL_law := kr_38 _ (List.mem_of_getElem? (i := 4) rfl)
theorem kw_38_5 : Cond.code yX6_isFriends cX6_isFriends 1 (some .boolean) ∈ wsL_law := kr_38 _ (List.mem_of_getElem? (i := 5) rfl)
theorem kw_38_7 : Cond.instanceMethod yX7_takes ∈ wsL_law := kr_38 _ (List.mem_of_getElem? (i := 7) rfl)
theorem kw_38_8 : Cond.selects RX7 yX7_takes yX7_takes ∈ wsL_law := kr_38 _ (List.mem_of_getElem? (i := 8) rfl)
theorem kw_38_9 : Cond.code yX7_takes cX7_takes 3 (some .int) ∈ wsL_law := kr_38 _ (List.mem_of_getElem? (i := 9) rfl)
theorem kw_38_10 : Cond.constantLong RX7 423 (28) ∈ wsL_law := kr_38 _ (List.mem_of_getElem? (i := 10) rfl)
theorem kw_38_12 : Cond.instanceMethod yX6_best ∈ wsL_law := kr_38 _ (List.mem_of_getElem? (i := 12) rfl)
theorem kw_38_13 : Cond.selects RX6 yX6_best yX6_best ∈ wsL_law := kr_38 _ (List.mem_of_getElem? (i := 13) rfl)
theorem kw_38_14 : Cond.code yX6_best cX6_best 8 (some .int) ∈ wsL_law := kr_38 _ (List.mem_of_getElem? (i := 14) rfl)
theorem kw_38_16 : Cond.instanceMethod yX7_best ∈ wsL_law := kr_38 _ (List.mem_of_getElem? (i := 16) rfl)
theorem kw_38_17 : Cond.selects RX7 yX7_best yX7_best ∈ wsL_law := kr_38 _ (List.mem_of_getElem? (i := 17) rfl)
theorem kw_38_18 : Cond.code yX7_best cX7_best 9 (some .int) ∈ wsL_law := kr_38 _ (List.mem_of_getElem? (i := 18) rfl)
theorem kw_38_19 : Cond.methodLink RX7 425 yX7_friendsBehind ∈ wsL_law := kr_38 _ (List.mem_of_getElem? (i := 19) rfl)
theorem kw_38_20 : Cond.instanceMethod yX7_friendsBehind ∈ wsL_law := kr_38 _ (List.mem_of_getElem? (i := 20) rfl)
theorem kw_38_21 : Cond.selects RX7 yX7_friendsBehind yX7_friendsBehind ∈ wsL_law := kr_38 _ (List.mem_of_getElem? (i := 21) rfl)
theorem kw_38_22 : Cond.code yX7_friendsBehind cX7_friendsBehind 3 (some .int) ∈ wsL_law := kr_38 _ (List.mem_of_getElem? (i := 22) rfl)
theorem kw_39_0 : Cond.instanceMethod yX6_change ∈ wsL_law := kr_39 _ (List.mem_of_getElem? (i := 0) rfl)
theorem kw_39_1 : Cond.selects RX6 yX6_change yX6_change ∈ wsL_law := kr_39 _ (List.mem_of_getElem? (i := 1) rfl)
theorem kw_39_2 : Cond.code yX6_change cX6_change 8 (some .int) ∈ wsL_law := kr_39 _ (List.mem_of_getElem? (i := 2) rfl)
theorem kw_39_3 : Cond.methodLink RX6 198 yX6_canChange ∈ wsL_law := kr_39 _ (List.mem_of_getElem? (i := 3) rfl)
theorem kw_39_4 : Cond.instanceMethod yX6_canChange ∈ wsL_law := kr_39 _ (List.mem_of_getElem? (i := 4) rfl)
theorem kw_39_5 : Cond.selects RX6 yX6_canChange yX6_canChange ∈ wsL_law := kr_39 _ (List.mem_of_getElem? (i := 5) rfl)
theorem kw_39_6 : Cond.code yX6_canChange cX6_canChange 5 (some .boolean) ∈ wsL_law := kr_39 _ (List.mem_of_getElem? (i := 6) rfl)
theorem kw_39_8 : Cond.instanceMethod yX7_change ∈ wsL_law := kr_39 _ (List.mem_of_getElem? (i := 8) rfl)
theorem kw_39_9 : Cond.selects RX7 yX7_change yX7_change ∈ wsL_law := kr_39 _ (List.mem_of_getElem? (i := 9) rfl)
theorem kw_39_10 : Cond.code yX7_change cX7_change 10 (some .int) ∈ wsL_law := kr_39 _ (List.mem_of_getElem? (i := 10) rfl)
theorem kw_39_12 : Cond.instanceMethod yX6_split ∈ wsL_law := kr_39 _ (List.mem_of_getElem? (i := 12) rfl)
theorem kw_39_13 : Cond.selects RX6 yX6_split yX6_split ∈ wsL_law := kr_39 _ (List.mem_of_getElem? (i := 13) rfl)
theorem kw_39_14 : Cond.code yX6_split cX6_split 8 (some .int) ∈ wsL_law := kr_39 _ (List.mem_of_getElem? (i := 14) rfl)
theorem kw_39_16 : Cond.instanceMethod yX7_split ∈ wsL_law := kr_39 _ (List.mem_of_getElem? (i := 16) rfl)
theorem kw_39_17 : Cond.selects RX7 yX7_split yX7_split ∈ wsL_law := kr_39 _ (List.mem_of_getElem? (i := 17) rfl)
theorem kw_39_18 : Cond.code yX7_split cX7_split 7 (some .int) ∈ wsL_law := kr_39 _ (List.mem_of_getElem? (i := 18) rfl)
theorem kw_39_19 : Cond.constantLong RX7 428 (2) ∈ wsL_law := kr_39 _ (List.mem_of_getElem? (i := 19) rfl)
theorem kw_39_20 : Cond.methodLink RX7 430 yX7_clears ∈ wsL_law := kr_39 _ (List.mem_of_getElem? (i := 20) rfl)
theorem kw_39_21 : Cond.instanceMethod yX7_clears ∈ wsL_law := kr_39 _ (List.mem_of_getElem? (i := 21) rfl)
theorem kw_39_22 : Cond.selects RX7 yX7_clears yX7_clears ∈ wsL_law := kr_39 _ (List.mem_of_getElem? (i := 22) rfl)
theorem kw_39_23 : Cond.code yX7_clears cX7_clears 2 none ∈ wsL_law := kr_39 _ (List.mem_of_getElem? (i := 23) rfl)
theorem kw_40_0 : Cond.methodLink RX7 433 yX7_sitsAgain ∈ wsL_law := kr_40 _ (List.mem_of_getElem? (i := 0) rfl)
theorem kw_40_1 : Cond.instanceMethod yX7_sitsAgain ∈ wsL_law := kr_40 _ (List.mem_of_getElem? (i := 1) rfl)
theorem kw_40_2 : Cond.selects RX7 yX7_sitsAgain yX7_sitsAgain ∈ wsL_law := kr_40 _ (List.mem_of_getElem? (i := 2) rfl)
theorem kw_40_3 : Cond.code yX7_sitsAgain cX7_sitsAgain 2 none ∈ wsL_law := kr_40 _ (List.mem_of_getElem? (i := 3) rfl)
theorem kw_40_5 : Cond.instanceMethod yX6_missed ∈ wsL_law := kr_40 _ (List.mem_of_getElem? (i := 5) rfl)
theorem kw_40_6 : Cond.selects RX6 yX6_missed yX6_missed ∈ wsL_law := kr_40 _ (List.mem_of_getElem? (i := 6) rfl)
theorem kw_40_7 : Cond.code yX6_missed cX6_missed 6 (some .int) ∈ wsL_law := kr_40 _ (List.mem_of_getElem? (i := 7) rfl)
theorem kw_40_9 : Cond.instanceMethod yX7_missed ∈ wsL_law := kr_40 _ (List.mem_of_getElem? (i := 9) rfl)
theorem kw_40_10 : Cond.selects RX7 yX7_missed yX7_missed ∈ wsL_law := kr_40 _ (List.mem_of_getElem? (i := 10) rfl)
theorem kw_40_11 : Cond.code yX7_missed cX7_missed 6 (some .int) ∈ wsL_law := kr_40 _ (List.mem_of_getElem? (i := 11) rfl)
theorem kw_40_13 : Cond.instanceMethod yX6_match ∈ wsL_law := kr_40 _ (List.mem_of_getElem? (i := 13) rfl)
theorem kw_40_14 : Cond.selects RX6 yX6_match yX6_match ∈ wsL_law := kr_40 _ (List.mem_of_getElem? (i := 14) rfl)
theorem kw_40_15 : Cond.code yX6_match cX6_match 7 (some .int) ∈ wsL_law := kr_40 _ (List.mem_of_getElem? (i := 15) rfl)
theorem kw_40_16 : Cond.methodLink RX6 210 yX3_knows ∈ wsL_law := kr_40 _ (List.mem_of_getElem? (i := 16) rfl)
theorem kw_40_17 : Cond.methodLink RX6 213 yX0_turn ∈ wsL_law := kr_40 _ (List.mem_of_getElem? (i := 17) rfl)
theorem kw_40_18 : Cond.instanceMethod yX0_turn ∈ wsL_law := kr_40 _ (List.mem_of_getElem? (i := 18) rfl)
theorem kw_40_19 : Cond.selects RX0 yX0_turn yX0_turn ∈ wsL_law := kr_40 _ (List.mem_of_getElem? (i := 19) rfl)
theorem kw_40_20 : Cond.code yX0_turn cX0_turn 3 none ∈ wsL_law := kr_40 _ (List.mem_of_getElem? (i := 20) rfl)
theorem kw_40_22 : Cond.instanceMethod yX7_match ∈ wsL_law := kr_40 _ (List.mem_of_getElem? (i := 22) rfl)
theorem kw_40_23 : Cond.selects RX7 yX7_match yX7_match ∈ wsL_law := kr_40 _ (List.mem_of_getElem? (i := 23) rfl)
theorem kw_41_0 : Cond.code yX7_match cX7_match 7 (some .int) ∈ wsL_law := kr_41 _ (List.mem_of_getElem? (i := 0) rfl)
theorem kw_41_2 : Cond.instanceMethod yX6_tells ∈ wsL_law := kr_41 _ (List.mem_of_getElem? (i := 2) rfl)
theorem kw_41_3 : Cond.selects RX6 yX6_tells yX6_tells ∈ wsL_law := kr_41 _ (List.mem_of_getElem? (i := 3) rfl)
theorem kw_41_4 : Cond.code yX6_tells cX6_tells 5 (some .int) ∈ wsL_law := kr_41 _ (List.mem_of_getElem? (i := 4) rfl)
theorem kw_41_5 : Cond.fieldLink RX6 224 "StreetTillTen$Sheet" "size" "I" ∈ wsL_law := kr_41 _ (List.mem_of_getElem? (i := 5) rfl)
theorem kw_41_6 : Cond.methodLink RX6 217 yX6_isSheet ∈ wsL_law := kr_41 _ (List.mem_of_getElem? (i := 6) rfl)
theorem kw_41_7 : Cond.static yX6_isSheet ∈ wsL_law := kr_41 _ (List.mem_of_getElem? (i := 7) rfl)
theorem kw_41_8 : Cond.code yX6_isSheet cX6_isSheet 1 (some .boolean) ∈ wsL_law := kr_41 _ (List.mem_of_getElem? (i := 8) rfl)
theorem kw_41_9 : Cond.methodLink RX6 220 yX2_isMissing ∈ wsL_law := kr_41 _ (List.mem_of_getElem? (i := 9) rfl)
theorem kw_41_10 : Cond.instanceMethod yX2_isMissing ∈ wsL_law := kr_41 _ (List.mem_of_getElem? (i := 10) rfl)
theorem kw_41_11 : Cond.selects RX2 yX2_isMissing yX2_isMissing ∈ wsL_law := kr_41 _ (List.mem_of_getElem? (i := 11) rfl)
theorem kw_41_12 : Cond.code yX2_isMissing cX2_isMissing 1 (some .boolean) ∈ wsL_law := kr_41 _ (List.mem_of_getElem? (i := 12) rfl)
theorem kw_41_13 : Cond.methodLink RX6 225 yX6_otherwise ∈ wsL_law := kr_41 _ (List.mem_of_getElem? (i := 13) rfl)
theorem kw_41_14 : Cond.instanceMethod yX6_otherwise ∈ wsL_law := kr_41 _ (List.mem_of_getElem? (i := 14) rfl)
theorem kw_41_15 : Cond.selects RX6 yX6_otherwise yX6_otherwise ∈ wsL_law := kr_41 _ (List.mem_of_getElem? (i := 15) rfl)
theorem kw_41_16 : Cond.code yX6_otherwise cX6_otherwise 3 (some .int) ∈ wsL_law := kr_41 _ (List.mem_of_getElem? (i := 16) rfl)
theorem kw_41_17 : Cond.methodLink RX6 301 yX2_unlikeItems ∈ wsL_law := kr_41 _ (List.mem_of_getElem? (i := 17) rfl)
theorem kw_41_18 : Cond.instanceMethod yX2_unlikeItems ∈ wsL_law := kr_41 _ (List.mem_of_getElem? (i := 18) rfl)
theorem kw_41_19 : Cond.selects RX2 yX2_unlikeItems yX2_unlikeItems ∈ wsL_law := kr_41 _ (List.mem_of_getElem? (i := 19) rfl)
theorem kw_41_20 : Cond.code yX2_unlikeItems cX2_unlikeItems 4 (some .int) ∈ wsL_law := kr_41 _ (List.mem_of_getElem? (i := 20) rfl)
theorem kw_41_21 : Cond.fieldLink RX2 19 "StreetTillTen$Sheet" "size" "I" ∈ wsL_law := kr_41 _ (List.mem_of_getElem? (i := 21) rfl)
theorem kw_41_22 : Cond.methodLink RX6 229 yX6_limits ∈ wsL_law := kr_41 _ (List.mem_of_getElem? (i := 22) rfl)
theorem kw_41_23 : Cond.instanceMethod yX6_limits ∈ wsL_law := kr_41 _ (List.mem_of_getElem? (i := 23) rfl)
theorem kw_42_0 : Cond.selects RX6 yX6_limits yX6_limits ∈ wsL_law := kr_42 _ (List.mem_of_getElem? (i := 0) rfl)
theorem kw_42_1 : Cond.code yX6_limits cX6_limits 5 (some .int) ∈ wsL_law := kr_42 _ (List.mem_of_getElem? (i := 1) rfl)
theorem kw_42_2 : Cond.methodLink RX6 311 yX6_fits ∈ wsL_law := kr_42 _ (List.mem_of_getElem? (i := 2) rfl)
theorem kw_42_3 : Cond.instanceMethod yX6_fits ∈ wsL_law := kr_42 _ (List.mem_of_getElem? (i := 3) rfl)
theorem kw_42_4 : Cond.selects RX6 yX6_fits yX6_fits ∈ wsL_law := kr_42 _ (List.mem_of_getElem? (i := 4) rfl)
theorem kw_42_5 : Cond.code yX6_fits cX6_fits 6 (some .boolean) ∈ wsL_law := kr_42 _ (List.mem_of_getElem? (i := 5) rfl)
theorem kw_42_6 : Cond.fieldLink RX6 268 "StreetTillTen$Sheet" "items" "[I" ∈ wsL_law := kr_42 _ (List.mem_of_getElem? (i := 6) rfl)
theorem kw_42_7 : Cond.methodLink RX6 232 yX6_leastLimit ∈ wsL_law := kr_42 _ (List.mem_of_getElem? (i := 7) rfl)
theorem kw_42_8 : Cond.instanceMethod yX6_leastLimit ∈ wsL_law := kr_42 _ (List.mem_of_getElem? (i := 8) rfl)
theorem kw_42_9 : Cond.selects RX6 yX6_leastLimit yX6_leastLimit ∈ wsL_law := kr_42 _ (List.mem_of_getElem? (i := 9) rfl)
theorem kw_42_10 : Cond.code yX6_leastLimit cX6_leastLimit 4 (some .int) ∈ wsL_law := kr_42 _ (List.mem_of_getElem? (i := 10) rfl)
theorem kw_42_11 : Cond.methodLink RX6 235 yX6_possible ∈ wsL_law := kr_42 _ (List.mem_of_getElem? (i := 11) rfl)
theorem kw_42_12 : Cond.instanceMethod yX6_possible ∈ wsL_law := kr_42 _ (List.mem_of_getElem? (i := 12) rfl)
theorem kw_42_13 : Cond.selects RX6 yX6_possible yX6_possible ∈ wsL_law := kr_42 _ (List.mem_of_getElem? (i := 13) rfl)
theorem kw_42_14 : Cond.code yX6_possible cX6_possible 7 (some .int) ∈ wsL_law := kr_42 _ (List.mem_of_getElem? (i := 14) rfl)
theorem kw_42_15 : Cond.methodLink RX6 305 yX6_choices ∈ wsL_law := kr_42 _ (List.mem_of_getElem? (i := 15) rfl)
theorem kw_42_16 : Cond.instanceMethod yX6_choices ∈ wsL_law := kr_42 _ (List.mem_of_getElem? (i := 16) rfl)
theorem kw_42_17 : Cond.selects RX6 yX6_choices yX6_choices ∈ wsL_law := kr_42 _ (List.mem_of_getElem? (i := 17) rfl)
theorem kw_42_18 : Cond.code yX6_choices cX6_choices 2 (some .int) ∈ wsL_law := kr_42 _ (List.mem_of_getElem? (i := 18) rfl)
theorem kw_42_19 : Cond.methodLink RX6 308 yX6_suppose ∈ wsL_law := kr_42 _ (List.mem_of_getElem? (i := 19) rfl)
theorem kw_42_20 : Cond.instanceMethod yX6_suppose ∈ wsL_law := kr_42 _ (List.mem_of_getElem? (i := 20) rfl)
theorem kw_42_21 : Cond.selects RX6 yX6_suppose yX6_suppose ∈ wsL_law := kr_42 _ (List.mem_of_getElem? (i := 21) rfl)
theorem kw_42_22 : Cond.code yX6_suppose cX6_suppose 4 none ∈ wsL_law := kr_42 _ (List.mem_of_getElem? (i := 22) rfl)
theorem kw_43_0 : Cond.instanceMethod yX7_tells ∈ wsL_law := kr_43 _ (List.mem_of_getElem? (i := 0) rfl)
theorem kw_43_1 : Cond.selects RX7 yX7_tells yX7_tells ∈ wsL_law := kr_43 _ (List.mem_of_getElem? (i := 1) rfl)
theorem kw_43_2 : Cond.code yX7_tells cX7_tells 9 (some .int) ∈ wsL_law := kr_43 _ (List.mem_of_getElem? (i := 2) rfl)
theorem kw_43_3 : Cond.constantLong RX7 439 (6) ∈ wsL_law := kr_43 _ (List.mem_of_getElem? (i := 3) rfl)
theorem kw_43_4 : Cond.methodLink RX7 436 yX7_isSheet ∈ wsL_law := kr_43 _ (List.mem_of_getElem? (i := 4) rfl)
theorem kw_43_5 : Cond.static yX7_isSheet ∈ wsL_law := kr_43 _ (List.mem_of_getElem? (i := 5) rfl)
theorem kw_43_6 : Cond.code yX7_isSheet cX7_isSheet 1 (some .boolean) ∈ wsL_law := kr_43 _ (List.mem_of_getElem? (i := 6) rfl)
theorem kw_43_7 : Cond.methodLink RX7 441 yX7_unlike ∈ wsL_law := kr_43 _ (List.mem_of_getElem? (i := 7) rfl)
theorem kw_43_8 : Cond.instanceMethod yX7_unlike ∈ wsL_law := kr_43 _ (List.mem_of_getElem? (i := 8) rfl)
theorem kw_43_9 : Cond.selects RX7 yX7_unlike yX7_unlike ∈ wsL_law := kr_43 _ (List.mem_of_getElem? (i := 9) rfl)
theorem kw_43_10 : Cond.code yX7_unlike cX7_unlike 5 (some .int) ∈ wsL_law := kr_43 _ (List.mem_of_getElem? (i := 10) rfl)
theorem kw_43_11 : Cond.methodLink RX7 444 yX7_limitsBy ∈ wsL_law := kr_43 _ (List.mem_of_getElem? (i := 11) rfl)
theorem kw_43_12 : Cond.instanceMethod yX7_limitsBy ∈ wsL_law := kr_43 _ (List.mem_of_getElem? (i := 12) rfl)
theorem kw_43_13 : Cond.selects RX7 yX7_limitsBy yX7_limitsBy ∈ wsL_law := kr_43 _ (List.mem_of_getElem? (i := 13) rfl)
theorem kw_43_14 : Cond.code yX7_limitsBy cX7_limitsBy 9 (some .int) ∈ wsL_law := kr_43 _ (List.mem_of_getElem? (i := 14) rfl)
theorem kw_43_16 : Cond.instanceMethod yX6_film ∈ wsL_law := kr_43 _ (List.mem_of_getElem? (i := 16) rfl)
theorem kw_43_17 : Cond.selects RX6 yX6_film yX6_film ∈ wsL_law := kr_43 _ (List.mem_of_getElem? (i := 17) rfl)
theorem kw_43_18 : Cond.code yX6_film cX6_film 5 (some .int) ∈ wsL_law := kr_43 _ (List.mem_of_getElem? (i := 18) rfl)
theorem kw_43_19 : Cond.methodLink RX6 239 yX2_lay ∈ wsL_law := kr_43 _ (List.mem_of_getElem? (i := 19) rfl)
theorem kw_43_20 : Cond.instanceMethod yX2_lay ∈ wsL_law := kr_43 _ (List.mem_of_getElem? (i := 20) rfl)
theorem kw_43_21 : Cond.selects RX2 yX2_lay yX2_lay ∈ wsL_law := kr_43 _ (List.mem_of_getElem? (i := 21) rfl)
theorem kw_43_22 : Cond.code yX2_lay cX2_lay 4 none ∈ wsL_law := kr_43 _ (List.mem_of_getElem? (i := 22) rfl)
theorem kw_43_23 : Cond.methodLink RX6 242 yX2_put ∈ wsL_law := kr_43 _ (List.mem_of_getElem? (i := 23) rfl)
theorem kw_44_0 : Cond.instanceMethod yX2_put ∈ wsL_law := kr_44 _ (List.mem_of_getElem? (i := 0) rfl)
theorem kw_44_1 : Cond.selects RX2 yX2_put yX2_put ∈ wsL_law := kr_44 _ (List.mem_of_getElem? (i := 1) rfl)
theorem kw_44_2 : Cond.code yX2_put cX2_put 3 none ∈ wsL_law := kr_44 _ (List.mem_of_getElem? (i := 2) rfl)
theorem kw_44_4 : Cond.instanceMethod yX7_film ∈ wsL_law := kr_44 _ (List.mem_of_getElem? (i := 4) rfl)
theorem kw_44_5 : Cond.selects RX7 yX7_film yX7_film ∈ wsL_law := kr_44 _ (List.mem_of_getElem? (i := 5) rfl)
theorem kw_44_6 : Cond.code yX7_film cX7_film 4 (some .int) ∈ wsL_law := kr_44 _ (List.mem_of_getElem? (i := 6) rfl)
theorem kw_44_7 : Cond.methodLink RX7 448 yX7_sheet ∈ wsL_law := kr_44 _ (List.mem_of_getElem? (i := 7) rfl)
theorem kw_44_8 : Cond.instanceMethod yX7_sheet ∈ wsL_law := kr_44 _ (List.mem_of_getElem? (i := 8) rfl)
theorem kw_44_9 : Cond.selects RX7 yX7_sheet yX7_sheet ∈ wsL_law := kr_44 _ (List.mem_of_getElem? (i := 9) rfl)
theorem kw_44_10 : Cond.code yX7_sheet cX7_sheet 5 (some .int) ∈ wsL_law := kr_44 _ (List.mem_of_getElem? (i := 10) rfl)
theorem kw_44_12 : Cond.instanceMethod yX6_drawn ∈ wsL_law := kr_44 _ (List.mem_of_getElem? (i := 12) rfl)
theorem kw_44_13 : Cond.selects RX6 yX6_drawn yX6_drawn ∈ wsL_law := kr_44 _ (List.mem_of_getElem? (i := 13) rfl)
theorem kw_44_14 : Cond.code yX6_drawn cX6_drawn 3 (some .int) ∈ wsL_law := kr_44 _ (List.mem_of_getElem? (i := 14) rfl)
theorem kw_44_15 : Cond.methodLink RX6 244 yX6_friendsDrawn ∈ wsL_law := kr_44 _ (List.mem_of_getElem? (i := 15) rfl)
theorem kw_44_16 : Cond.instanceMethod yX6_friendsDrawn ∈ wsL_law := kr_44 _ (List.mem_of_getElem? (i := 16) rfl)
theorem kw_44_17 : Cond.selects RX6 yX6_friendsDrawn yX6_friendsDrawn ∈ wsL_law := kr_44 _ (List.mem_of_getElem? (i := 17) rfl)
theorem kw_44_18 : Cond.code yX6_friendsDrawn cX6_friendsDrawn 5 (some .int) ∈ wsL_law := kr_44 _ (List.mem_of_getElem? (i := 18) rfl)
theorem kw_44_19 : Cond.constant RX6 295 (1103515245) ∈ wsL_law := kr_44 _ (List.mem_of_getElem? (i := 19) rfl)
theorem kw_44_21 : Cond.instanceMethod yX7_drawn ∈ wsL_law := kr_44 _ (List.mem_of_getElem? (i := 21) rfl)
theorem kw_44_22 : Cond.selects RX7 yX7_drawn yX7_drawn ∈ wsL_law := kr_44 _ (List.mem_of_getElem? (i := 22) rfl)
theorem kw_44_23 : Cond.code yX7_drawn cX7_drawn 3 (some .int) ∈ wsL_law := kr_44 _ (List.mem_of_getElem? (i := 23) rfl)
theorem kw_45_0 : Cond.methodLink RX7 452 yX7_friendsBy ∈ wsL_law := kr_45 _ (List.mem_of_getElem? (i := 0) rfl)
theorem kw_45_1 : Cond.instanceMethod yX7_friendsBy ∈ wsL_law := kr_45 _ (List.mem_of_getElem? (i := 1) rfl)
theorem kw_45_2 : Cond.selects RX7 yX7_friendsBy yX7_friendsBy ∈ wsL_law := kr_45 _ (List.mem_of_getElem? (i := 2) rfl)
theorem kw_45_3 : Cond.code yX7_friendsBy cX7_friendsBy 5 (some .int) ∈ wsL_law := kr_45 _ (List.mem_of_getElem? (i := 3) rfl)
theorem kw_45_4 : Cond.constant RX7 451 (1103515245) ∈ wsL_law := kr_45 _ (List.mem_of_getElem? (i := 4) rfl)
theorem kw_45_6 : Cond.instanceMethod yX6_chance ∈ wsL_law := kr_45 _ (List.mem_of_getElem? (i := 6) rfl)
theorem kw_45_7 : Cond.selects RX6 yX6_chance yX6_chance ∈ wsL_law := kr_45 _ (List.mem_of_getElem? (i := 7) rfl)
theorem kw_45_8 : Cond.code yX6_chance cX6_chance 7 (some .long) ∈ wsL_law := kr_45 _ (List.mem_of_getElem? (i := 8) rfl)
theorem kw_45_9 : Cond.constantLong RX6 247 (-4611686018427387904) ∈ wsL_law := kr_45 _ (List.mem_of_getElem? (i := 9) rfl)
theorem kw_45_10 : Cond.methodLink RX6 249 yX6_commonDivisor ∈ wsL_law := kr_45 _ (List.mem_of_getElem? (i := 10) rfl)
theorem kw_45_11 : Cond.static yX6_commonDivisor ∈ wsL_law := kr_45 _ (List.mem_of_getElem? (i := 11) rfl)
theorem kw_45_12 : Cond.code yX6_commonDivisor cX6_commonDivisor 6 (some .int) ∈ wsL_law := kr_45 _ (List.mem_of_getElem? (i := 12) rfl)
theorem kw_45_13 : Cond.methodLink RX6 296 Lib.Math.max.name ∈ wsL_law := kr_45 _ (List.mem_of_getElem? (i := 13) rfl)
theorem kw_45_15 : Cond.instanceMethod yX7_chance ∈ wsL_law := kr_45 _ (List.mem_of_getElem? (i := 15) rfl)
theorem kw_45_16 : Cond.selects RX7 yX7_chance yX7_chance ∈ wsL_law := kr_45 _ (List.mem_of_getElem? (i := 16) rfl)
theorem kw_45_17 : Cond.code yX7_chance cX7_chance 13 (some .long) ∈ wsL_law := kr_45 _ (List.mem_of_getElem? (i := 17) rfl)
theorem kw_45_18 : Cond.constantLong RX7 455 (-4611686018427387904) ∈ wsL_law := kr_45 _ (List.mem_of_getElem? (i := 18) rfl)
theorem kw_45_20 : Cond.instanceMethod yX6_image ∈ wsL_law := kr_45 _ (List.mem_of_getElem? (i := 20) rfl)
theorem kw_45_21 : Cond.selects RX6 yX6_image yX6_image ∈ wsL_law := kr_45 _ (List.mem_of_getElem? (i := 21) rfl)
theorem kw_45_22 : Cond.code yX6_image cX6_image 1 (some .int) ∈ wsL_law := kr_45 _ (List.mem_of_getElem? (i := 22) rfl)
theorem kw_45_23 : Cond.fieldLink RX6 252 "StreetTillTen" "hasImage" "Z" ∈ wsL_law := kr_45 _ (List.mem_of_getElem? (i := 23) rfl)
theorem kw_46_1 : Cond.instanceMethod yX7_image ∈ wsL_law := kr_46 _ (List.mem_of_getElem? (i := 1) rfl)
theorem kw_46_2 : Cond.selects RX7 yX7_image yX7_image ∈ wsL_law := kr_46 _ (List.mem_of_getElem? (i := 2) rfl)
theorem kw_46_3 : Cond.code yX7_image cX7_image 2 (some .int) ∈ wsL_law := kr_46 _ (List.mem_of_getElem? (i := 3) rfl)
theorem kw_46_4 : Cond.fieldLink RX7 457 "StreetTillTenModel" "yearKept" "I" ∈ wsL_law := kr_46 _ (List.mem_of_getElem? (i := 4) rfl)
theorem kw_46_5 : Cond.fieldLink RX7 460 "StreetTillTenModel" "limitKept" "I" ∈ wsL_law := kr_46 _ (List.mem_of_getElem? (i := 5) rfl)
theorem kw_46_6 : Cond.fieldLink RX7 463 "StreetTillTenModel" "ruleKept" "I" ∈ wsL_law := kr_46 _ (List.mem_of_getElem? (i := 6) rfl)
theorem kw_46_8 : Cond.instanceMethod yX6_back ∈ wsL_law := kr_46 _ (List.mem_of_getElem? (i := 8) rfl)
theorem kw_46_9 : Cond.selects RX6 yX6_back yX6_back ∈ wsL_law := kr_46 _ (List.mem_of_getElem? (i := 9) rfl)
theorem kw_46_10 : Cond.code yX6_back cX6_back 1 (some .int) ∈ wsL_law := kr_46 _ (List.mem_of_getElem? (i := 10) rfl)
theorem kw_46_12 : Cond.instanceMethod yX7_back ∈ wsL_law := kr_46 _ (List.mem_of_getElem? (i := 12) rfl)
theorem kw_46_13 : Cond.selects RX7 yX7_back yX7_back ∈ wsL_law := kr_46 _ (List.mem_of_getElem? (i := 13) rfl)
theorem kw_46_14 : Cond.code yX7_back cX7_back 2 (some .int) ∈ wsL_law := kr_46 _ (List.mem_of_getElem? (i := 14) rfl)
theorem kw_46_16 : Cond.instanceMethod yX6_count ∈ wsL_law := kr_46 _ (List.mem_of_getElem? (i := 16) rfl)
theorem kw_46_17 : Cond.selects RX6 yX6_count yX6_count ∈ wsL_law := kr_46 _ (List.mem_of_getElem? (i := 17) rfl)
theorem kw_46_18 : Cond.code yX6_count cX6_count 2 (some .int) ∈ wsL_law := kr_46 _ (List.mem_of_getElem? (i := 18) rfl)
theorem kw_46_19 : Cond.methodLink RX6 256 yX3_seated ∈ wsL_law := kr_46 _ (List.mem_of_getElem? (i := 19) rfl)
theorem kw_46_20 : Cond.instanceMethod yX3_seated ∈ wsL_law := kr_46 _ (List.mem_of_getElem? (i := 20) rfl)
theorem kw_46_21 : Cond.selects RX3 yX3_seated yX3_seated ∈ wsL_law := kr_46 _ (List.mem_of_getElem? (i := 21) rfl)
theorem kw_46_22 : Cond.code yX3_seated cX3_seated 3 (some .int) ∈ wsL_law := kr_46 _ (List.mem_of_getElem? (i := 22) rfl)
theorem kw_47_0 : Cond.instanceMethod yX7_count ∈ wsL_law := kr_47 _ (List.mem_of_getElem? (i := 0) rfl)
theorem kw_47_1 : Cond.selects RX7 yX7_count yX7_count ∈ wsL_law := kr_47 _ (List.mem_of_getElem? (i := 1) rfl)
theorem kw_47_2 : Cond.code yX7_count cX7_count 4 (some .int) ∈ wsL_law := kr_47 _ (List.mem_of_getElem? (i := 2) rfl)
theorem kw_47_4 : Cond.instanceMethod yX6_sheet ∈ wsL_law := kr_47 _ (List.mem_of_getElem? (i := 4) rfl)
theorem kw_47_5 : Cond.selects RX6 yX6_sheet yX6_sheet ∈ wsL_law := kr_47 _ (List.mem_of_getElem? (i := 5) rfl)
theorem kw_47_6 : Cond.code yX6_sheet cX6_sheet 4 (some .int) ∈ wsL_law := kr_47 _ (List.mem_of_getElem? (i := 6) rfl)
theorem kw_47_7 : Cond.methodLink RX6 259 yX6_isSort ∈ wsL_law := kr_47 _ (List.mem_of_getElem? (i := 7) rfl)
theorem kw_47_8 : Cond.static yX6_isSort ∈ wsL_law := kr_47 _ (List.mem_of_getElem? (i := 8) rfl)
theorem kw_47_9 : Cond.code yX6_isSort cX6_isSort 1 (some .boolean) ∈ wsL_law := kr_47 _ (List.mem_of_getElem? (i := 9) rfl)
theorem kw_47_12 : Cond.instanceMethod yX6_cell ∈ wsL_law := kr_47 _ (List.mem_of_getElem? (i := 12) rfl)
theorem kw_47_13 : Cond.selects RX6 yX6_cell yX6_cell ∈ wsL_law := kr_47 _ (List.mem_of_getElem? (i := 13) rfl)
theorem kw_47_14 : Cond.code yX6_cell cX6_cell 5 (some .int) ∈ wsL_law := kr_47 _ (List.mem_of_getElem? (i := 14) rfl)
theorem kw_47_15 : Cond.methodLink RX6 262 yX2_holds ∈ wsL_law := kr_47 _ (List.mem_of_getElem? (i := 15) rfl)
theorem kw_47_16 : Cond.instanceMethod yX2_holds ∈ wsL_law := kr_47 _ (List.mem_of_getElem? (i := 16) rfl)
theorem kw_47_17 : Cond.selects RX2 yX2_holds yX2_holds ∈ wsL_law := kr_47 _ (List.mem_of_getElem? (i := 17) rfl)
theorem kw_47_18 : Cond.code yX2_holds cX2_holds 3 (some .boolean) ∈ wsL_law := kr_47 _ (List.mem_of_getElem? (i := 18) rfl)
theorem kw_47_20 : Cond.instanceMethod yX7_cell ∈ wsL_law := kr_47 _ (List.mem_of_getElem? (i := 20) rfl)
theorem kw_47_21 : Cond.selects RX7 yX7_cell yX7_cell ∈ wsL_law := kr_47 _ (List.mem_of_getElem? (i := 21) rfl)
theorem kw_47_22 : Cond.code yX7_cell cX7_cell 4 (some .int) ∈ wsL_law := kr_47 _ (List.mem_of_getElem? (i := 22) rfl)
theorem kw_48_0 : Cond.instanceMethod yX6_copy ∈ wsL_law := kr_48 _ (List.mem_of_getElem? (i := 0) rfl)
theorem kw_48_1 : Cond.selects RX6 yX6_copy yX6_copy ∈ wsL_law := kr_48 _ (List.mem_of_getElem? (i := 1) rfl)
theorem kw_48_2 : Cond.code yX6_copy cX6_copy 8 (some .int) ∈ wsL_law := kr_48 _ (List.mem_of_getElem? (i := 2) rfl)
theorem kw_48_3 : Cond.fieldLink RX6 265 "StreetTillTen$Sheet" "sort" "I" ∈ wsL_law := kr_48 _ (List.mem_of_getElem? (i := 3) rfl)
theorem kw_48_4 : Cond.methodLink RX6 271 arraycopyName ∈ wsL_law := kr_48 _ (List.mem_of_getElem? (i := 4) rfl)
theorem kw_48_6 : Cond.instanceMethod yX7_copy ∈ wsL_law := kr_48 _ (List.mem_of_getElem? (i := 6) rfl)
theorem kw_48_7 : Cond.selects RX7 yX7_copy yX7_copy ∈ wsL_law := kr_48 _ (List.mem_of_getElem? (i := 7) rfl)
theorem kw_48_8 : Cond.code yX7_copy cX7_copy 9 (some .int) ∈ wsL_law := kr_48 _ (List.mem_of_getElem? (i := 8) rfl)
theorem kw_48_10 : Cond.instanceMethod yX6_houses ∈ wsL_law := kr_48 _ (List.mem_of_getElem? (i := 10) rfl)
theorem kw_48_11 : Cond.selects RX6 yX6_houses yX6_houses ∈ wsL_law := kr_48 _ (List.mem_of_getElem? (i := 11) rfl)
theorem kw_48_12 : Cond.code yX6_houses cX6_houses 9 (some .int) ∈ wsL_law := kr_48 _ (List.mem_of_getElem? (i := 12) rfl)
theorem kw_48_14 : Cond.instanceMethod yX7_houses ∈ wsL_law := kr_48 _ (List.mem_of_getElem? (i := 14) rfl)
theorem kw_48_15 : Cond.selects RX7 yX7_houses yX7_houses ∈ wsL_law := kr_48 _ (List.mem_of_getElem? (i := 15) rfl)
theorem kw_48_16 : Cond.code yX7_houses cX7_houses 8 (some .int) ∈ wsL_law := kr_48 _ (List.mem_of_getElem? (i := 16) rfl)
theorem kw_48_17 : Cond.constantLong RX7 466 (8) ∈ wsL_law := kr_48 _ (List.mem_of_getElem? (i := 17) rfl)
theorem kw_48_18 : Cond.methodLink RX7 468 yX7_house ∈ wsL_law := kr_48 _ (List.mem_of_getElem? (i := 18) rfl)
theorem kw_48_20 : Cond.instanceMethod yX6_taken ∈ wsL_law := kr_48 _ (List.mem_of_getElem? (i := 20) rfl)
theorem kw_48_21 : Cond.selects RX6 yX6_taken yX6_taken ∈ wsL_law := kr_48 _ (List.mem_of_getElem? (i := 21) rfl)
theorem kw_48_22 : Cond.code yX6_taken cX6_taken 3 (some .int) ∈ wsL_law := kr_48 _ (List.mem_of_getElem? (i := 22) rfl)
theorem kw_48_23 : Cond.methodLink RX6 277 yX6_isUnder ∈ wsL_law := kr_48 _ (List.mem_of_getElem? (i := 23) rfl)
theorem kw_49_0 : Cond.static yX6_isUnder ∈ wsL_law := kr_49 _ (List.mem_of_getElem? (i := 0) rfl)
theorem kw_49_1 : Cond.code yX6_isUnder cX6_isUnder 4 (some .boolean) ∈ wsL_law := kr_49 _ (List.mem_of_getElem? (i := 1) rfl)
theorem kw_49_2 : Cond.fieldLink RX6 280 "StreetTillTen" "KIND_ABOVE" "[I" ∈ wsL_law := kr_49 _ (List.mem_of_getElem? (i := 2) rfl)
theorem kw_49_4 : Cond.instanceMethod yX7_taken ∈ wsL_law := kr_49 _ (List.mem_of_getElem? (i := 4) rfl)
theorem kw_49_5 : Cond.selects RX7 yX7_taken yX7_taken ∈ wsL_law := kr_49 _ (List.mem_of_getElem? (i := 5) rfl)
theorem kw_49_6 : Cond.code yX7_taken cX7_taken 4 (some .int) ∈ wsL_law := kr_49 _ (List.mem_of_getElem? (i := 6) rfl)
theorem kw_49_7 : Cond.methodLink RX7 471 yX7_over ∈ wsL_law := kr_49 _ (List.mem_of_getElem? (i := 7) rfl)
theorem kw_49_8 : Cond.static yX7_over ∈ wsL_law := kr_49 _ (List.mem_of_getElem? (i := 8) rfl)
theorem kw_49_9 : Cond.code yX7_over cX7_over 1 (some .int) ∈ wsL_law := kr_49 _ (List.mem_of_getElem? (i := 9) rfl)
theorem xas_mem {α : Type} : ∀ {l : List (Nat × α)} {n : Nat} {v : α}, xas l n = some v → (n, v) ∈ l
  | [], n, v, h => by cases h
  | (k, u) :: l, n, v, h => by
    unfold xas at h
    cases e : Nat.beq k n with
    | true =>
      rw [e] at h
      cases h
      rw [Nat.eq_of_beq_eq_true e]
      exact List.mem_cons_self
    | false =>
      rw [e] at h
      exact List.mem_cons_of_mem _ (xas_mem h)
theorem xas2_mem {α : Type} {L : List (Nat × List (Nat × α))} {own idx : Nat} {v : α} (h : xas2 L own idx = some v) : ∃ l, (own, l) ∈ L ∧ (idx, v) ∈ l := by
  unfold xas2 at h
  split at h
  · next l hl => exact ⟨l, xas_mem hl, xas_mem h⟩
  · cases h
def xNest : List (Nat × Nat × MethodName) := [(6, 9, yX4_init), (6, 24, yX0_init), (6, 38, yX2_init)]
def xFL (own : Nat) (e : Nat × Nat × Nat) : Prop := (∃ q : vw_C, vwCl[e.2.1]? = some q ∧ e.2.2 < q.2.2 ∧ Cond.fieldLink (xcn own) e.1 (q.2.1 e.2.2).1 (q.2.1 e.2.2).2.1 (q.2.1 e.2.2).2.2.1 ∈ wsL_law) ∨ (e.2.1 = 200 ∧ Cond.fieldLink (xcn own) e.1 "java/lang/String" (if e.2.2 = 0 then "value" else "coder") (if e.2.2 = 0 then "[B" else "B") ∈ wsL_law)
theorem xfl_ok0 : ∀ e ∈ xflL0, xFL 0 e := List.forall_mem_cons.mpr ⟨Or.inl ⟨(RX0, TX0, 2), rfl, by decide, kw_32_9⟩, List.forall_mem_cons.mpr ⟨Or.inl ⟨(RX0, TX0, 2), rfl, by decide, kw_3_2⟩, List.forall_mem_cons.mpr ⟨Or.inl ⟨(RX3, TX3, 9), rfl, by decide, kw_32_8⟩, fun _ h => absurd h List.not_mem_nil⟩⟩⟩
theorem xfl_ok1 : ∀ e ∈ xflL1, xFL 1 e := List.forall_mem_cons.mpr ⟨Or.inl ⟨(RX1, TX1, 5), rfl, by decide, kw_6_10⟩, List.forall_mem_cons.mpr ⟨Or.inl ⟨(RX1, TX1, 5), rfl, by decide, kw_6_3⟩, List.forall_mem_cons.mpr ⟨Or.inl ⟨(RX1, TX1, 5), rfl, by decide, kw_6_8⟩, List.forall_mem_cons.mpr ⟨Or.inl ⟨(RX1, TX1, 5), rfl, by decide, kw_6_2⟩, List.forall_mem_cons.mpr ⟨Or.inl ⟨(RX1, TX1, 5), rfl, by decide, kw_6_11⟩, List.forall_mem_cons.mpr ⟨Or.inl ⟨(RX4, TX4, 6), rfl, by decide, kw_6_9⟩, List.forall_mem_cons.mpr ⟨Or.inl ⟨(RX4, TX4, 6), rfl, by decide, kw_8_21⟩, List.forall_mem_cons.mpr ⟨Or.inl ⟨(RX4, TX4, 6), rfl, by decide, kw_9_20⟩, fun _ h => absurd h List.not_mem_nil⟩⟩⟩⟩⟩⟩⟩⟩
theorem xfl_ok2 : ∀ e ∈ xflL2, xFL 2 e := List.forall_mem_cons.mpr ⟨Or.inl ⟨(RX2, TX2, 3), rfl, by decide, kw_3_15⟩, List.forall_mem_cons.mpr ⟨Or.inl ⟨(RX2, TX2, 3), rfl, by decide, kw_3_14⟩, List.forall_mem_cons.mpr ⟨Or.inl ⟨(RX2, TX2, 3), rfl, by decide, kw_41_21⟩, fun _ h => absurd h List.not_mem_nil⟩⟩⟩
theorem xfl_ok3 : ∀ e ∈ xflL3, xFL 3 e := List.forall_mem_cons.mpr ⟨Or.inl ⟨(RX3, TX3, 9), rfl, by decide, kw_24_8⟩, List.forall_mem_cons.mpr ⟨Or.inl ⟨(RX3, TX3, 9), rfl, by decide, kw_10_15⟩, List.forall_mem_cons.mpr ⟨Or.inl ⟨(RX3, TX3, 9), rfl, by decide, kw_10_12⟩, List.forall_mem_cons.mpr ⟨Or.inl ⟨(RX3, TX3, 9), rfl, by decide, kw_10_14⟩, List.forall_mem_cons.mpr ⟨Or.inl ⟨(RX3, TX3, 9), rfl, by decide, kw_10_11⟩, List.forall_mem_cons.mpr ⟨Or.inl ⟨(RX3, TX3, 9), rfl, by decide, kw_10_10⟩, List.forall_mem_cons.mpr ⟨Or.inl ⟨(RX3, TX3, 9), rfl, by decide, kw_10_16⟩, List.forall_mem_cons.mpr ⟨Or.inl ⟨(RX3, TX3, 9), rfl, by decide, kw_26_16⟩, List.forall_mem_cons.mpr ⟨Or.inl ⟨(RX3, TX3, 9), rfl, by decide, kw_10_9⟩, fun _ h => absurd h List.not_mem_nil⟩⟩⟩⟩⟩⟩⟩⟩⟩
theorem xfl_ok4 : ∀ e ∈ xflL4, xFL 4 e := List.forall_mem_cons.mpr ⟨Or.inl ⟨(RX4, TX4, 6), rfl, by decide, kw_6_21⟩, List.forall_mem_cons.mpr ⟨Or.inl ⟨(RX4, TX4, 6), rfl, by decide, kw_2_22⟩, List.forall_mem_cons.mpr ⟨Or.inl ⟨(RX4, TX4, 6), rfl, by decide, kw_5_21⟩, List.forall_mem_cons.mpr ⟨Or.inl ⟨(RX4, TX4, 6), rfl, by decide, kw_2_19⟩, List.forall_mem_cons.mpr ⟨Or.inl ⟨(RX4, TX4, 6), rfl, by decide, kw_2_20⟩, List.forall_mem_cons.mpr ⟨Or.inl ⟨(RX4, TX4, 6), rfl, by decide, kw_2_21⟩, fun _ h => absurd h List.not_mem_nil⟩⟩⟩⟩⟩⟩
theorem xfl_ok5 : ∀ e ∈ xflL5, xFL 5 e := List.forall_mem_cons.mpr ⟨Or.inl ⟨(RX5, TX5, 5), rfl, by decide, kw_3_9⟩, List.forall_mem_cons.mpr ⟨Or.inl ⟨(RX5, TX5, 5), rfl, by decide, kw_6_16⟩, List.forall_mem_cons.mpr ⟨Or.inl ⟨(RX5, TX5, 5), rfl, by decide, kw_3_8⟩, List.forall_mem_cons.mpr ⟨Or.inl ⟨(RX5, TX5, 5), rfl, by decide, kw_3_7⟩, List.forall_mem_cons.mpr ⟨Or.inl ⟨(RX5, TX5, 5), rfl, by decide, kw_3_10⟩, fun _ h => absurd h List.not_mem_nil⟩⟩⟩⟩⟩
theorem xfl_ok6 : ∀ e ∈ xflL6, xFL 6 e := List.forall_mem_cons.mpr ⟨Or.inl ⟨(RX6, TX6, 10), rfl, by decide, kw_2_12⟩, List.forall_mem_cons.mpr ⟨Or.inl ⟨(RX6, TX6, 10), rfl, by decide, kw_2_13⟩, List.forall_mem_cons.mpr ⟨Or.inl ⟨(RX3, TX3, 9), rfl, by decide, kw_12_15⟩, List.forall_mem_cons.mpr ⟨Or.inl ⟨(RX6, TX6, 10), rfl, by decide, kw_1_21⟩, List.forall_mem_cons.mpr ⟨Or.inl ⟨(RX3, TX3, 9), rfl, by decide, kw_12_10⟩, List.forall_mem_cons.mpr ⟨Or.inl ⟨(RX6, TX6, 10), rfl, by decide, kw_1_17⟩, List.forall_mem_cons.mpr ⟨Or.inl ⟨(RX6, TX6, 10), rfl, by decide, kw_1_23⟩, List.forall_mem_cons.mpr ⟨Or.inl ⟨(RX6, TX6, 10), rfl, by decide, kw_2_8⟩, List.forall_mem_cons.mpr ⟨Or.inl ⟨(RX6, TX6, 10), rfl, by decide, kw_1_15⟩, List.forall_mem_cons.mpr ⟨Or.inl ⟨(RX3, TX3, 9), rfl, by decide, kw_24_22⟩, List.forall_mem_cons.mpr ⟨Or.inl ⟨(RX2, TX2, 3), rfl, by decide, kw_42_6⟩, List.forall_mem_cons.mpr ⟨Or.inl ⟨(RX3, TX3, 9), rfl, by decide, kw_12_7⟩, List.forall_mem_cons.mpr ⟨Or.inl ⟨(RX3, TX3, 9), rfl, by decide, kw_12_9⟩, List.forall_mem_cons.mpr ⟨Or.inl ⟨(RX3, TX3, 9), rfl, by decide, kw_28_14⟩, List.forall_mem_cons.mpr ⟨Or.inl ⟨(RX6, TX6, 10), rfl, by decide, kw_2_7⟩, List.forall_mem_cons.mpr ⟨Or.inl ⟨(RX6, TX6, 10), rfl, by decide, kw_2_14⟩, List.forall_mem_cons.mpr ⟨Or.inl ⟨(RX3, TX3, 9), rfl, by decide, kw_25_19⟩, List.forall_mem_cons.mpr ⟨Or.inl ⟨(RX2, TX2, 3), rfl, by decide, kw_48_3⟩, List.forall_mem_cons.mpr ⟨Or.inl ⟨(RX3, TX3, 9), rfl, by decide, kw_12_8⟩, List.forall_mem_cons.mpr ⟨Or.inl ⟨(RX4, TX4, 6), rfl, by decide, kw_27_19⟩, List.forall_mem_cons.mpr ⟨Or.inl ⟨(RX5, TX5, 5), rfl, by decide, kw_28_15⟩, List.forall_mem_cons.mpr ⟨Or.inl ⟨(RX6, TX6, 10), rfl, by decide, kw_45_23⟩, List.forall_mem_cons.mpr ⟨Or.inl ⟨(RX2, TX2, 3), rfl, by decide, kw_41_5⟩, fun _ h => absurd h List.not_mem_nil⟩⟩⟩⟩⟩⟩⟩⟩⟩⟩⟩⟩⟩⟩⟩⟩⟩⟩⟩⟩⟩⟩⟩
theorem xfl_ok7 : ∀ e ∈ xflL7, xFL 7 e := List.forall_mem_cons.mpr ⟨Or.inl ⟨(RX7, TX7, 47), rfl, by decide, kw_13_8⟩, List.forall_mem_cons.mpr ⟨Or.inl ⟨(RX7, TX7, 47), rfl, by decide, kw_15_10⟩, List.forall_mem_cons.mpr ⟨Or.inl ⟨(RX7, TX7, 47), rfl, by decide, kw_15_9⟩, List.forall_mem_cons.mpr ⟨Or.inl ⟨(RX7, TX7, 47), rfl, by decide, kw_11_3⟩, List.forall_mem_cons.mpr ⟨Or.inl ⟨(RX7, TX7, 47), rfl, by decide, kw_15_21⟩, List.forall_mem_cons.mpr ⟨Or.inl ⟨(RX7, TX7, 47), rfl, by decide, kw_15_11⟩, List.forall_mem_cons.mpr ⟨Or.inl ⟨(RX7, TX7, 47), rfl, by decide, kw_15_8⟩, List.forall_mem_cons.mpr ⟨Or.inl ⟨(RX7, TX7, 47), rfl, by decide, kw_11_0⟩, List.forall_mem_cons.mpr ⟨Or.inl ⟨(RX7, TX7, 47), rfl, by decide, kw_13_23⟩, List.forall_mem_cons.mpr ⟨Or.inl ⟨(RX7, TX7, 47), rfl, by decide, kw_10_21⟩, List.forall_mem_cons.mpr ⟨Or.inl ⟨(RX7, TX7, 47), rfl, by decide, kw_11_2⟩, List.forall_mem_cons.mpr ⟨Or.inl ⟨(RX7, TX7, 47), rfl, by decide, kw_11_8⟩, List.forall_mem_cons.mpr ⟨Or.inl ⟨(RX7, TX7, 47), rfl, by decide, kw_11_20⟩, List.forall_mem_cons.mpr ⟨Or.inl ⟨(RX7, TX7, 47), rfl, by decide, kw_11_19⟩, List.forall_mem_cons.mpr ⟨Or.inl ⟨(RX7, TX7, 47), rfl, by decide, kw_28_1⟩, List.forall_mem_cons.mpr ⟨Or.inl ⟨(RX7, TX7, 47), rfl, by decide, kw_11_1⟩, List.forall_mem_cons.mpr ⟨Or.inl ⟨(RX7, TX7, 47), rfl, by decide, kw_11_4⟩, List.forall_mem_cons.mpr ⟨Or.inl ⟨(RX7, TX7, 47), rfl, by decide, kw_11_16⟩, List.forall_mem_cons.mpr ⟨Or.inl ⟨(RX7, TX7, 47), rfl, by decide, kw_14_22⟩, List.forall_mem_cons.mpr ⟨Or.inl ⟨(RX7, TX7, 47), rfl, by decide, kw_11_17⟩, List.forall_mem_cons.mpr ⟨Or.inl ⟨(RX7, TX7, 47), rfl, by decide, kw_11_18⟩, List.forall_mem_cons.mpr ⟨Or.inl ⟨(RX7, TX7, 47), rfl, by decide, kw_11_7⟩, List.forall_mem_cons.mpr ⟨Or.inl ⟨(RX7, TX7, 47), rfl, by decide, kw_15_16⟩, List.forall_mem_cons.mpr ⟨Or.inl ⟨(RX7, TX7, 47), rfl, by decide, kw_11_5⟩, List.forall_mem_cons.mpr ⟨Or.inl ⟨(RX7, TX7, 47), rfl, by decide, kw_11_6⟩, List.forall_mem_cons.mpr ⟨Or.inl ⟨(RX7, TX7, 47), rfl, by decide, kw_10_22⟩, List.forall_mem_cons.mpr ⟨Or.inl ⟨(RX7, TX7, 47), rfl, by decide, kw_11_14⟩, List.forall_mem_cons.mpr ⟨Or.inl ⟨(RX7, TX7, 47), rfl, by decide, kw_10_23⟩, List.forall_mem_cons.mpr ⟨Or.inl ⟨(RX7, TX7, 47), rfl, by decide, kw_11_9⟩, List.forall_mem_cons.mpr ⟨Or.inl ⟨(RX7, TX7, 47), rfl, by decide, kw_11_10⟩, List.forall_mem_cons.mpr ⟨Or.inl ⟨(RX7, TX7, 47), rfl, by decide, kw_11_11⟩, List.forall_mem_cons.mpr ⟨Or.inl ⟨(RX7, TX7, 47), rfl, by decide, kw_11_12⟩, List.forall_mem_cons.mpr ⟨Or.inl ⟨(RX7, TX7, 47), rfl, by decide, kw_11_13⟩, List.forall_mem_cons.mpr ⟨Or.inl ⟨(RX7, TX7, 47), rfl, by decide, kw_15_7⟩, List.forall_mem_cons.mpr ⟨Or.inl ⟨(RX7, TX7, 47), rfl, by decide, kw_14_16⟩, List.forall_mem_cons.mpr ⟨Or.inl ⟨(RX7, TX7, 47), rfl, by decide, kw_14_17⟩, List.forall_mem_cons.mpr ⟨Or.inl ⟨(RX7, TX7, 47), rfl, by decide, kw_14_18⟩, List.forall_mem_cons.mpr ⟨Or.inl ⟨(RX7, TX7, 47), rfl, by decide, kw_14_19⟩, List.forall_mem_cons.mpr ⟨Or.inl ⟨(RX7, TX7, 47), rfl, by decide, kw_14_20⟩, List.forall_mem_cons.mpr ⟨Or.inl ⟨(RX7, TX7, 47), rfl, by decide, kw_14_21⟩, List.forall_mem_cons.mpr ⟨Or.inl ⟨(RX7, TX7, 47), rfl, by decide, kw_15_6⟩, List.forall_mem_cons.mpr ⟨Or.inl ⟨(RX7, TX7, 47), rfl, by decide, kw_16_18⟩, List.forall_mem_cons.mpr ⟨Or.inl ⟨(RX7, TX7, 47), rfl, by decide, kw_37_14⟩, List.forall_mem_cons.mpr ⟨Or.inl ⟨(RX7, TX7, 47), rfl, by decide, kw_46_4⟩, List.forall_mem_cons.mpr ⟨Or.inl ⟨(RX7, TX7, 47), rfl, by decide, kw_46_5⟩, List.forall_mem_cons.mpr ⟨Or.inl ⟨(RX7, TX7, 47), rfl, by decide, kw_46_6⟩, fun _ h => absurd h List.not_mem_nil⟩⟩⟩⟩⟩⟩⟩⟩⟩⟩⟩⟩⟩⟩⟩⟩⟩⟩⟩⟩⟩⟩⟩⟩⟩⟩⟩⟩⟩⟩⟩⟩⟩⟩⟩⟩⟩⟩⟩⟩⟩⟩⟩⟩⟩⟩
theorem xfl_ok10 : ∀ e ∈ xflL10, xFL 10 e := List.forall_mem_cons.mpr ⟨Or.inr ⟨rfl, kw_3_21⟩, List.forall_mem_cons.mpr ⟨Or.inr ⟨rfl, kw_4_3⟩, fun _ h => absurd h List.not_mem_nil⟩⟩
theorem xfl_all : ∀ p ∈ xflA, ∀ e ∈ p.2, xFL p.1 e := List.forall_mem_cons.mpr ⟨xfl_ok7, List.forall_mem_cons.mpr ⟨xfl_ok6, List.forall_mem_cons.mpr ⟨xfl_ok3, List.forall_mem_cons.mpr ⟨xfl_ok4, List.forall_mem_cons.mpr ⟨xfl_ok1, List.forall_mem_cons.mpr ⟨xfl_ok5, List.forall_mem_cons.mpr ⟨xfl_ok0, List.forall_mem_cons.mpr ⟨xfl_ok2, List.forall_mem_cons.mpr ⟨xfl_ok10, fun _ h => absurd h List.not_mem_nil⟩⟩⟩⟩⟩⟩⟩⟩⟩
theorem xfl_ok {own idx ci k : Nat} (h : xfl own idx = some (ci, k)) : xFL own (idx, ci, k) := by
  obtain ⟨l, h1, h2⟩ := xas2_mem h
  exact xfl_all _ h1 _ h2
def xGS (own : Nat) (e : Nat × Nat) : Prop := ∀ q, xStat[e.2]? = some q → Cond.fieldLink (xcn own) e.1 q.1 q.2.1 q.2.2.1 ∈ wsL_law
theorem xgs_all : ∀ p ∈ xgsA, ∀ e ∈ p.2, xGS p.1 e := List.forall_mem_cons.mpr ⟨(List.forall_mem_cons.mpr ⟨fun z hz => by cases hz; exact kw_12_5, List.forall_mem_cons.mpr ⟨fun z hz => by cases hz; exact kw_12_6, List.forall_mem_cons.mpr ⟨fun z hz => by cases hz; exact kw_49_2, fun _ h => absurd h List.not_mem_nil⟩⟩⟩), List.forall_mem_cons.mpr ⟨(List.forall_mem_cons.mpr ⟨fun z hz => by cases hz; exact kw_4_2, List.forall_mem_cons.mpr ⟨fun z hz => by cases hz; exact kw_4_19, fun _ h => absurd h List.not_mem_nil⟩⟩), fun _ h => absurd h List.not_mem_nil⟩⟩
theorem xgs_ok {own idx k : Nat} (h : xgs own idx = some k) : xGS own (idx, k) := by
  obtain ⟨l, h1, h2⟩ := xas2_mem h
  exact xgs_all _ h1 _ h2
def xKL (own : Nat) (e : Nat × Nat) : Prop := (e.2 = 104 ∧ Cond.classLink (xcn own) e.1 "[[I" ∈ wsL_law) ∨ ∃ q : vw_C, vwCl[e.2]? = some q ∧ Cond.classLink (xcn own) e.1 q.1 ∈ wsL_law ∧ Cond.instantiable q.1 q.2.2 ∈ wsL_law ∧ Cond.initialized q.1 ∈ wsL_law
theorem xkl_all : ∀ p ∈ xklA, ∀ e ∈ p.2, xKL p.1 e := List.forall_mem_cons.mpr ⟨(List.forall_mem_cons.mpr ⟨Or.inl ⟨rfl, kw_10_13⟩, fun _ h => absurd h List.not_mem_nil⟩), List.forall_mem_cons.mpr ⟨(List.forall_mem_cons.mpr ⟨Or.inr ⟨(RX4, TX4, 6), rfl, kw_1_12, kw_1_13, kw_1_14⟩, List.forall_mem_cons.mpr ⟨Or.inr ⟨(RX5, TX5, 5), rfl, kw_1_16, kw_2_0, kw_2_1⟩, List.forall_mem_cons.mpr ⟨Or.inr ⟨(RX0, TX0, 2), rfl, kw_1_18, kw_1_19, kw_1_20⟩, List.forall_mem_cons.mpr ⟨Or.inr ⟨(RX2, TX2, 3), rfl, kw_1_22, kw_2_2, kw_2_3⟩, List.forall_mem_cons.mpr ⟨Or.inr ⟨(RX1, TX1, 5), rfl, kw_2_4, kw_2_5, kw_2_6⟩, List.forall_mem_cons.mpr ⟨Or.inr ⟨(RX3, TX3, 9), rfl, kw_2_9, kw_2_10, kw_2_11⟩, fun _ h => absurd h List.not_mem_nil⟩⟩⟩⟩⟩⟩), fun _ h => absurd h List.not_mem_nil⟩⟩
theorem xkl_ok {own idx k : Nat} (h : xkl own idx = some k) : xKL own (idx, k) := by
  obtain ⟨l, h1, h2⟩ := xas2_mem h
  exact xkl_all _ h1 _ h2
theorem xco_all : ∀ p ∈ xcoA, ∀ e ∈ p.2, Cond.constant (xcn p.1) e.1 e.2 ∈ wsL_law := List.forall_mem_cons.mpr ⟨(List.forall_mem_cons.mpr ⟨kw_44_19, fun _ h => absurd h List.not_mem_nil⟩), List.forall_mem_cons.mpr ⟨(List.forall_mem_cons.mpr ⟨kw_45_4, fun _ h => absurd h List.not_mem_nil⟩), List.forall_mem_cons.mpr ⟨(List.forall_mem_cons.mpr ⟨kw_33_13, List.forall_mem_cons.mpr ⟨kw_33_14, List.forall_mem_cons.mpr ⟨kw_33_15, fun _ h => absurd h List.not_mem_nil⟩⟩⟩), fun _ h => absurd h List.not_mem_nil⟩⟩⟩
theorem xco_ok {own idx : Nat} {k : Int32} (h : xco own idx = some k) : Cond.constant (xcn own) idx k ∈ wsL_law := by
  obtain ⟨l, h1, h2⟩ := xas2_mem h
  exact xco_all _ h1 _ h2
theorem xcoL_all : ∀ p ∈ xcoLA, ∀ e ∈ p.2, Cond.constantLong (xcn p.1) e.1 e.2 ∈ wsL_law := List.forall_mem_cons.mpr ⟨(List.forall_mem_cons.mpr ⟨kw_45_9, fun _ h => absurd h List.not_mem_nil⟩), List.forall_mem_cons.mpr ⟨(List.forall_mem_cons.mpr ⟨kw_13_0, List.forall_mem_cons.mpr ⟨kw_13_12, List.forall_mem_cons.mpr ⟨kw_13_13, List.forall_mem_cons.mpr ⟨kw_13_14, List.forall_mem_cons.mpr ⟨kw_13_15, List.forall_mem_cons.mpr ⟨kw_13_20, List.forall_mem_cons.mpr ⟨kw_13_21, List.forall_mem_cons.mpr ⟨kw_13_22, List.forall_mem_cons.mpr ⟨kw_15_17, List.forall_mem_cons.mpr ⟨kw_15_18, List.forall_mem_cons.mpr ⟨kw_15_19, List.forall_mem_cons.mpr ⟨kw_15_20, List.forall_mem_cons.mpr ⟨kw_17_7, List.forall_mem_cons.mpr ⟨kw_18_12, List.forall_mem_cons.mpr ⟨kw_24_13, List.forall_mem_cons.mpr ⟨kw_28_0, List.forall_mem_cons.mpr ⟨kw_37_8, List.forall_mem_cons.mpr ⟨kw_37_9, List.forall_mem_cons.mpr ⟨kw_38_10, List.forall_mem_cons.mpr ⟨kw_39_19, List.forall_mem_cons.mpr ⟨kw_43_3, List.forall_mem_cons.mpr ⟨kw_45_18, List.forall_mem_cons.mpr ⟨kw_48_17, fun _ h => absurd h List.not_mem_nil⟩⟩⟩⟩⟩⟩⟩⟩⟩⟩⟩⟩⟩⟩⟩⟩⟩⟩⟩⟩⟩⟩⟩), fun _ h => absurd h List.not_mem_nil⟩⟩
theorem xcoL_ok {own idx : Nat} {k : Int64} (h : xcoL own idx = some k) : Cond.constantLong (xcn own) idx k ∈ wsL_law := by
  obtain ⟨l, h1, h2⟩ := xas2_mem h
  exact xcoL_all _ h1 _ h2
def xlen (I : Instr) : Nat := match I with
  | .iload _ => 2
  | .aload _ => 2
  | .lload _ => 2
  | .istore _ => 2
  | .astore _ => 2
  | .lstore _ => 2
  | .bipush _ => 2
  | .ldc _ => 2
  | .newarray _ => 2
  | .sipush _ => 3
  | .ldc_w _ => 3
  | .ldc2_w _ => 3
  | .if_icmp _ _ => 3
  | .ifCond _ _ => 3
  | .goto _ => 3
  | .iinc _ _ => 3
  | .getfield _ => 3
  | .putfield _ => 3
  | .getstatic _ => 3
  | .new _ => 3
  | .anewarray _ => 3
  | .invokestatic _ => 3
  | .invokevirtual _ => 3
  | .invokespecial _ => 3
  | .multianewarray _ _ => 4
  | .tableswitch _ _ _ _ => 0
  | .lookupswitch _ _ => 0
  | _ => 1
def xMIok (mi : xMI) : Prop := plainName mi.1.cls = true ∧ mi.1.cls = xcn mi.2.2.1 ∧ Cond.code mi.1 mi.2.1 mi.2.2.2.2.1 (xrt mi.2.2.2.2.2.1) ∈ wsL_law ∧ Cond.initialized mi.1.cls ∈ wsL_law ∧ (mi.1.cls ≠ "java/lang/invoke/MethodHandle" ∧ mi.1.cls ≠ "java/lang/invoke/VarHandle") ∧ (parseMethodDescriptor mi.1.desc).map (fun d => d.parameters.length) = some (if mi.2.2.2.2.2.2.1 = 0 then mi.2.2.2.1 else mi.2.2.2.1 - 1) ∧ mi.2.2.2.2.1 ≤ 13 ∧ (mi.2.2.2.2.2.2.1 = 0 → Cond.static mi.1 ∈ wsL_law) ∧ (mi.2.2.2.2.2.2.1 ≠ 0 → Cond.instanceMethod mi.1 ∈ wsL_law ∧ 1 ≤ mi.2.2.2.1) ∧ (mi.2.2.2.2.2.2.1 = 1 → Cond.selects mi.1.cls mi.1 mi.1 ∈ wsL_law) ∧ (mi.2.2.2.2.2.2.1 = 2 → mi.1.name = "<init>" ∧ mi.2.2.2.2.2.1 = 0) ∧ ∀ pc e, xfetch mi.2.2.2.2.2.2.2.2.2 pc = some e → decode mi.2.1 pc = .ok e ∧ (xlen e.1 = 0 ∨ e.2 = xlen e.1)
def xchk (cc : ByteArray) (tb : xTb) : Bool := (List.range tb.length).all fun c => (List.range 8).all fun o => match xfetch tb (8 * c + o) with
  | none => true
  | some e => decide (decode cc (8 * c + o) = .ok e) && (xlen e.1 == 0 || e.2 == xlen e.1)
theorem xchk_ok {cc : ByteArray} {tb : xTb} (h : xchk cc tb = true) : ∀ pc e, xfetch tb pc = some e → decode cc pc = .ok e ∧ (xlen e.1 = 0 ∨ e.2 = xlen e.1) := by
  intro pc e he
  have hl : pc / 8 < tb.length := by
    unfold xfetch at he
    rw [xnth_eq] at he
    cases hq : tb[pc / 8]? with
    | none => rw [hq] at he; cases he
    | some l => exact (List.getElem?_eq_some_iff.mp hq).1
  have h1 := List.all_eq_true.mp (List.all_eq_true.mp h (pc / 8) (List.mem_range.mpr hl)) (pc % 8) (List.mem_range.mpr (Nat.mod_lt _ (by decide)))
  rw [show 8 * (pc / 8) + pc % 8 = pc from Nat.div_add_mod pc 8, he] at h1
  simp only [Bool.and_eq_true, Bool.or_eq_true, beq_iff_eq] at h1
  exact ⟨of_decide_eq_true h1.1, h1.2⟩
set_option maxRecDepth 100000 in
theorem xck0 : xchk cX0_init xt0 = true := by decide +kernel
set_option maxRecDepth 100000 in
theorem xck1 : xchk cX0_see xt1 = true := by decide +kernel
set_option maxRecDepth 100000 in
theorem xck2 : xchk cX0_everyone xt2 = true := by decide +kernel
set_option maxRecDepth 100000 in
theorem xck3 : xchk cX0_turn xt3 = true := by decide +kernel
set_option maxRecDepth 100000 in
theorem xck4 : xchk cX0_companies xt4 = true := by decide +kernel
set_option maxRecDepth 100000 in
theorem xck5 : xchk cX0_largestCompany xt5 = true := by decide +kernel
set_option maxRecDepth 100000 in
theorem xck6 : xchk cX0_distance xt6 = true := by decide +kernel
set_option maxRecDepth 100000 in
theorem xck7 : xchk cX0_longestWay xt7 = true := by decide +kernel
set_option maxRecDepth 100000 in
theorem xck8 : xchk cX0_companyOf xt8 = true := by decide +kernel
set_option maxRecDepth 100000 in
theorem xck9 : xchk cX0_further xt9 = true := by decide +kernel
set_option maxRecDepth 100000 in
theorem xck10 : xchk cX1_init xt10 = true := by decide +kernel
set_option maxRecDepth 100000 in
theorem xck11 : xchk cX1_readInto xt11 = true := by decide +kernel
set_option maxRecDepth 100000 in
theorem xck12 : xchk cX1_readPart xt12 = true := by decide +kernel
set_option maxRecDepth 100000 in
theorem xck13 : xchk cX1_read xt13 = true := by decide +kernel
set_option maxRecDepth 100000 in
theorem xck14 : xchk cX1_readOne xt14 = true := by decide +kernel
set_option maxRecDepth 100000 in
theorem xck15 : xchk cX1_opens xt15 = true := by decide +kernel
set_option maxRecDepth 100000 in
theorem xck16 : xchk cX1_expect xt16 = true := by decide +kernel
set_option maxRecDepth 100000 in
theorem xck17 : xchk cX1_next xt17 = true := by decide +kernel
set_option maxRecDepth 100000 in
theorem xck18 : xchk cX1_fail xt18 = true := by decide +kernel
set_option maxRecDepth 100000 in
theorem xck19 : xchk cX1_levelOf xt19 = true := by decide +kernel
set_option maxRecDepth 100000 in
theorem xck20 : xchk cX1_operationOf xt20 = true := by decide +kernel
set_option maxRecDepth 100000 in
theorem xck21 : xchk cX2_init xt21 = true := by decide +kernel
set_option maxRecDepth 100000 in
theorem xck22 : xchk cX2_isMissing xt22 = true := by decide +kernel
set_option maxRecDepth 100000 in
theorem xck23 : xchk cX2_lay xt23 = true := by decide +kernel
set_option maxRecDepth 100000 in
theorem xck24 : xchk cX2_holds xt24 = true := by decide +kernel
set_option maxRecDepth 100000 in
theorem xck25 : xchk cX2_put xt25 = true := by decide +kernel
set_option maxRecDepth 100000 in
theorem xck26 : xchk cX2_unlikeItems xt26 = true := by decide +kernel
set_option maxRecDepth 100000 in
theorem xck27 : xchk cX3_init xt27 = true := by decide +kernel
set_option maxRecDepth 100000 in
theorem xck28 : xchk cX3_become xt28 = true := by decide +kernel
set_option maxRecDepth 100000 in
theorem xck29 : xchk cX3_add xt29 = true := by decide +kernel
set_option maxRecDepth 100000 in
theorem xck30 : xchk cX3_tie xt30 = true := by decide +kernel
set_option maxRecDepth 100000 in
theorem xck31 : xchk cX3_knows xt31 = true := by decide +kernel
set_option maxRecDepth 100000 in
theorem xck32 : xchk cX3_acquaintances xt32 = true := by decide +kernel
set_option maxRecDepth 100000 in
theorem xck33 : xchk cX3_friends xt33 = true := by decide +kernel
set_option maxRecDepth 100000 in
theorem xck34 : xchk cX3_allStrength xt34 = true := by decide +kernel
set_option maxRecDepth 100000 in
theorem xck35 : xchk cX3_seatsAt xt35 = true := by decide +kernel
set_option maxRecDepth 100000 in
theorem xck36 : xchk cX3_seated xt36 = true := by decide +kernel
set_option maxRecDepth 100000 in
theorem xck37 : xchk cX3_meets xt37 = true := by decide +kernel
set_option maxRecDepth 100000 in
theorem xck38 : xchk cX3_forgets xt38 = true := by decide +kernel
set_option maxRecDepth 100000 in
theorem xck39 : xchk cX3_sounds xt39 = true := by decide +kernel
set_option maxRecDepth 100000 in
theorem xck40 : xchk cX3_look xt40 = true := by decide +kernel
set_option maxRecDepth 100000 in
theorem xck41 : xchk cX3_holdFeast xt41 = true := by decide +kernel
set_option maxRecDepth 100000 in
theorem xck42 : xchk cX3_endYear xt42 = true := by decide +kernel
set_option maxRecDepth 100000 in
theorem xck43 : xchk cX3_pass xt43 = true := by decide +kernel
set_option maxRecDepth 100000 in
theorem xck44 : xchk cX3_quietTable xt44 = true := by decide +kernel
set_option maxRecDepth 100000 in
theorem xck45 : xchk cX3_dinAt xt45 = true := by decide +kernel
set_option maxRecDepth 100000 in
theorem xck46 : xchk cX4_init xt46 = true := by decide +kernel
set_option maxRecDepth 100000 in
theorem xck47 : xchk cX4_put xt47 = true := by decide +kernel
set_option maxRecDepth 100000 in
theorem xck48 : xchk cX4_empty xt48 = true := by decide +kernel
set_option maxRecDepth 100000 in
theorem xck49 : xchk cX4_cut xt49 = true := by decide +kernel
set_option maxRecDepth 100000 in
theorem xck50 : xchk cX4_cutNumber xt50 = true := by decide +kernel
set_option maxRecDepth 100000 in
theorem xck51 : xchk cX4_cutWord xt51 = true := by decide +kernel
set_option maxRecDepth 100000 in
theorem xck52 : xchk cX4_nameFrom xt52 = true := by decide +kernel
set_option maxRecDepth 100000 in
theorem xck53 : xchk cX4_keyFrom xt53 = true := by decide +kernel
set_option maxRecDepth 100000 in
theorem xck54 : xchk cX4_reads xt54 = true := by decide +kernel
set_option maxRecDepth 100000 in
theorem xck55 : xchk cX4_isBlank xt55 = true := by decide +kernel
set_option maxRecDepth 100000 in
theorem xck56 : xchk cX4_isDigit xt56 = true := by decide +kernel
set_option maxRecDepth 100000 in
theorem xck57 : xchk cX4_isSmall xt57 = true := by decide +kernel
set_option maxRecDepth 100000 in
theorem xck58 : xchk cX5_init xt58 = true := by decide +kernel
set_option maxRecDepth 100000 in
theorem xck59 : xchk cX5_clear xt59 = true := by decide +kernel
set_option maxRecDepth 100000 in
theorem xck60 : xchk cX5_write xt60 = true := by decide +kernel
set_option maxRecDepth 100000 in
theorem xck61 : xchk cX5_endPart xt61 = true := by decide +kernel
set_option maxRecDepth 100000 in
theorem xck62 : xchk cX5_value xt62 = true := by decide +kernel
set_option maxRecDepth 100000 in
theorem xck63 : xchk cX5_turned xt63 = true := by decide +kernel
set_option maxRecDepth 100000 in
theorem xck64 : xchk cX5_joined xt64 = true := by decide +kernel
set_option maxRecDepth 100000 in
theorem xck65 : xchk cX6_init xt65 = true := by decide +kernel
set_option maxRecDepth 100000 in
theorem xck66 : xchk cX6_set xt66 = true := by decide +kernel
set_option maxRecDepth 100000 in
theorem xck67 : xchk cX6_house xt67 = true := by decide +kernel
set_option maxRecDepth 100000 in
theorem xck68 : xchk cX6_bind xt68 = true := by decide +kernel
set_option maxRecDepth 100000 in
theorem xck69 : xchk cX6_told xt69 = true := by decide +kernel
set_option maxRecDepth 100000 in
theorem xck70 : xchk cX6_feed xt70 = true := by decide +kernel
set_option maxRecDepth 100000 in
theorem xck71 : xchk cX6_text xt71 = true := by decide +kernel
set_option maxRecDepth 100000 in
theorem xck72 : xchk cX6_force xt72 = true := by decide +kernel
set_option maxRecDepth 100000 in
theorem xck73 : xchk cX6_asks xt73 = true := by decide +kernel
set_option maxRecDepth 100000 in
theorem xck74 : xchk cX6_feast xt74 = true := by decide +kernel
set_option maxRecDepth 100000 in
theorem xck75 : xchk cX6_year xt75 = true := by decide +kernel
set_option maxRecDepth 100000 in
theorem xck76 : xchk cX6_street xt76 = true := by decide +kernel
set_option maxRecDepth 100000 in
theorem xck77 : xchk cX6_way xt77 = true := by decide +kernel
set_option maxRecDepth 100000 in
theorem xck78 : xchk cX6_run xt78 = true := by decide +kernel
set_option maxRecDepth 100000 in
theorem xck79 : xchk cX6_takes xt79 = true := by decide +kernel
set_option maxRecDepth 100000 in
theorem xck80 : xchk cX6_best xt80 = true := by decide +kernel
set_option maxRecDepth 100000 in
theorem xck81 : xchk cX6_change xt81 = true := by decide +kernel
set_option maxRecDepth 100000 in
theorem xck82 : xchk cX6_split xt82 = true := by decide +kernel
set_option maxRecDepth 100000 in
theorem xck83 : xchk cX6_missed xt83 = true := by decide +kernel
set_option maxRecDepth 100000 in
theorem xck84 : xchk cX6_match xt84 = true := by decide +kernel
set_option maxRecDepth 100000 in
theorem xck85 : xchk cX6_tells xt85 = true := by decide +kernel
set_option maxRecDepth 100000 in
theorem xck86 : xchk cX6_film xt86 = true := by decide +kernel
set_option maxRecDepth 100000 in
theorem xck87 : xchk cX6_drawn xt87 = true := by decide +kernel
set_option maxRecDepth 100000 in
theorem xck88 : xchk cX6_chance xt88 = true := by decide +kernel
set_option maxRecDepth 100000 in
theorem xck89 : xchk cX6_image xt89 = true := by decide +kernel
set_option maxRecDepth 100000 in
theorem xck90 : xchk cX6_back xt90 = true := by decide +kernel
set_option maxRecDepth 100000 in
theorem xck91 : xchk cX6_count xt91 = true := by decide +kernel
set_option maxRecDepth 100000 in
theorem xck92 : xchk cX6_sheet xt92 = true := by decide +kernel
set_option maxRecDepth 100000 in
theorem xck93 : xchk cX6_cell xt93 = true := by decide +kernel
set_option maxRecDepth 100000 in
theorem xck94 : xchk cX6_copy xt94 = true := by decide +kernel
set_option maxRecDepth 100000 in
theorem xck95 : xchk cX6_houses xt95 = true := by decide +kernel
set_option maxRecDepth 100000 in
theorem xck96 : xchk cX6_taken xt96 = true := by decide +kernel
set_option maxRecDepth 100000 in
theorem xck97 : xchk cX6_isHouse xt97 = true := by decide +kernel
set_option maxRecDepth 100000 in
theorem xck98 : xchk cX6_isTwo xt98 = true := by decide +kernel
set_option maxRecDepth 100000 in
theorem xck99 : xchk cX6_isSheet xt99 = true := by decide +kernel
set_option maxRecDepth 100000 in
theorem xck100 : xchk cX6_isSort xt100 = true := by decide +kernel
set_option maxRecDepth 100000 in
theorem xck101 : xchk cX6_isYears xt101 = true := by decide +kernel
set_option maxRecDepth 100000 in
theorem xck102 : xchk cX6_isFriends xt102 = true := by decide +kernel
set_option maxRecDepth 100000 in
theorem xck103 : xchk cX6_isEither xt103 = true := by decide +kernel
set_option maxRecDepth 100000 in
theorem xck104 : xchk cX6_isUnder xt104 = true := by decide +kernel
set_option maxRecDepth 100000 in
theorem xck105 : xchk cX6_setting xt105 = true := by decide +kernel
set_option maxRecDepth 100000 in
theorem xck106 : xchk cX6_settle xt106 = true := by decide +kernel
set_option maxRecDepth 100000 in
theorem xck107 : xchk cX6_figure xt107 = true := by decide +kernel
set_option maxRecDepth 100000 in
theorem xck108 : xchk cX6_canChange xt108 = true := by decide +kernel
set_option maxRecDepth 100000 in
theorem xck109 : xchk cX6_friendsDrawn xt109 = true := by decide +kernel
set_option maxRecDepth 100000 in
theorem xck110 : xchk cX6_commonDivisor xt110 = true := by decide +kernel
set_option maxRecDepth 100000 in
theorem xck111 : xchk cX6_otherwise xt111 = true := by decide +kernel
set_option maxRecDepth 100000 in
theorem xck112 : xchk cX6_possible xt112 = true := by decide +kernel
set_option maxRecDepth 100000 in
theorem xck113 : xchk cX6_choices xt113 = true := by decide +kernel
set_option maxRecDepth 100000 in
theorem xck114 : xchk cX6_suppose xt114 = true := by decide +kernel
set_option maxRecDepth 100000 in
theorem xck115 : xchk cX6_limits xt115 = true := by decide +kernel
set_option maxRecDepth 100000 in
theorem xck116 : xchk cX6_leastLimit xt116 = true := by decide +kernel
set_option maxRecDepth 100000 in
theorem xck117 : xchk cX6_fits xt117 = true := by decide +kernel
set_option maxRecDepth 100000 in
theorem xck118 : xchk cX7_in xt118 = true := by decide +kernel
set_option maxRecDepth 100000 in
theorem xck119 : xchk cX7_within xt119 = true := by decide +kernel
set_option maxRecDepth 100000 in
theorem xck120 : xchk cX7_init xt120 = true := by decide +kernel
set_option maxRecDepth 100000 in
theorem xck121 : xchk cX7_spell xt121 = true := by decide +kernel
set_option maxRecDepth 100000 in
theorem xck122 : xchk cX7_isHouse xt122 = true := by decide +kernel
set_option maxRecDepth 100000 in
theorem xck123 : xchk cX7_isValue xt123 = true := by decide +kernel
set_option maxRecDepth 100000 in
theorem xck124 : xchk cX7_set xt124 = true := by decide +kernel
set_option maxRecDepth 100000 in
theorem xck125 : xchk cX7_lays xt125 = true := by decide +kernel
set_option maxRecDepth 100000 in
theorem xck126 : xchk cX7_strengthOf xt126 = true := by decide +kernel
set_option maxRecDepth 100000 in
theorem xck127 : xchk cX7_binds xt127 = true := by decide +kernel
set_option maxRecDepth 100000 in
theorem xck128 : xchk cX7_house xt128 = true := by decide +kernel
set_option maxRecDepth 100000 in
theorem xck129 : xchk cX7_areTwo xt129 = true := by decide +kernel
set_option maxRecDepth 100000 in
theorem xck130 : xchk cX7_bind xt130 = true := by decide +kernel
set_option maxRecDepth 100000 in
theorem xck131 : xchk cX7_told xt131 = true := by decide +kernel
set_option maxRecDepth 100000 in
theorem xck132 : xchk cX7_seatsOf xt132 = true := by decide +kernel
set_option maxRecDepth 100000 in
theorem xck133 : xchk cX7_feed xt133 = true := by decide +kernel
set_option maxRecDepth 100000 in
theorem xck134 : xchk cX7_byteAt xt134 = true := by decide +kernel
set_option maxRecDepth 100000 in
theorem xck135 : xchk cX7_next xt135 = true := by decide +kernel
set_option maxRecDepth 100000 in
theorem xck136 : xchk cX7_fail xt136 = true := by decide +kernel
set_option maxRecDepth 100000 in
theorem xck137 : xchk cX7_isLetter xt137 = true := by decide +kernel
set_option maxRecDepth 100000 in
theorem xck138 : xchk cX7_isWord xt138 = true := by decide +kernel
set_option maxRecDepth 100000 in
theorem xck139 : xchk cX7_isSign xt139 = true := by decide +kernel
set_option maxRecDepth 100000 in
theorem xck140 : xchk cX7_opens xt140 = true := by decide +kernel
set_option maxRecDepth 100000 in
theorem xck141 : xchk cX7_name xt141 = true := by decide +kernel
set_option maxRecDepth 100000 in
theorem xck142 : xchk cX7_atom5 xt142 = true := by decide +kernel
set_option maxRecDepth 100000 in
theorem xck143 : xchk cX7_term5 xt143 = true := by decide +kernel
set_option maxRecDepth 100000 in
theorem xck144 : xchk cX7_added5 xt144 = true := by decide +kernel
set_option maxRecDepth 100000 in
theorem xck145 : xchk cX7_not5 xt145 = true := by decide +kernel
set_option maxRecDepth 100000 in
theorem xck146 : xchk cX7_both5 xt146 = true := by decide +kernel
set_option maxRecDepth 100000 in
theorem xck147 : xchk cX7_either5 xt147 = true := by decide +kernel
set_option maxRecDepth 100000 in
theorem xck148 : xchk cX7_atom4 xt148 = true := by decide +kernel
set_option maxRecDepth 100000 in
theorem xck149 : xchk cX7_term4 xt149 = true := by decide +kernel
set_option maxRecDepth 100000 in
theorem xck150 : xchk cX7_added4 xt150 = true := by decide +kernel
set_option maxRecDepth 100000 in
theorem xck151 : xchk cX7_not4 xt151 = true := by decide +kernel
set_option maxRecDepth 100000 in
theorem xck152 : xchk cX7_both4 xt152 = true := by decide +kernel
set_option maxRecDepth 100000 in
theorem xck153 : xchk cX7_either4 xt153 = true := by decide +kernel
set_option maxRecDepth 100000 in
theorem xck154 : xchk cX7_atom3 xt154 = true := by decide +kernel
set_option maxRecDepth 100000 in
theorem xck155 : xchk cX7_term3 xt155 = true := by decide +kernel
set_option maxRecDepth 100000 in
theorem xck156 : xchk cX7_added3 xt156 = true := by decide +kernel
set_option maxRecDepth 100000 in
theorem xck157 : xchk cX7_not3 xt157 = true := by decide +kernel
set_option maxRecDepth 100000 in
theorem xck158 : xchk cX7_both3 xt158 = true := by decide +kernel
set_option maxRecDepth 100000 in
theorem xck159 : xchk cX7_either3 xt159 = true := by decide +kernel
set_option maxRecDepth 100000 in
theorem xck160 : xchk cX7_atom2 xt160 = true := by decide +kernel
set_option maxRecDepth 100000 in
theorem xck161 : xchk cX7_term2 xt161 = true := by decide +kernel
set_option maxRecDepth 100000 in
theorem xck162 : xchk cX7_added2 xt162 = true := by decide +kernel
set_option maxRecDepth 100000 in
theorem xck163 : xchk cX7_not2 xt163 = true := by decide +kernel
set_option maxRecDepth 100000 in
theorem xck164 : xchk cX7_both2 xt164 = true := by decide +kernel
set_option maxRecDepth 100000 in
theorem xck165 : xchk cX7_either2 xt165 = true := by decide +kernel
set_option maxRecDepth 100000 in
theorem xck166 : xchk cX7_atom1 xt166 = true := by decide +kernel
set_option maxRecDepth 100000 in
theorem xck167 : xchk cX7_term1 xt167 = true := by decide +kernel
set_option maxRecDepth 100000 in
theorem xck168 : xchk cX7_added1 xt168 = true := by decide +kernel
set_option maxRecDepth 100000 in
theorem xck169 : xchk cX7_not1 xt169 = true := by decide +kernel
set_option maxRecDepth 100000 in
theorem xck170 : xchk cX7_both1 xt170 = true := by decide +kernel
set_option maxRecDepth 100000 in
theorem xck171 : xchk cX7_either1 xt171 = true := by decide +kernel
set_option maxRecDepth 100000 in
theorem xck172 : xchk cX7_atom0 xt172 = true := by decide +kernel
set_option maxRecDepth 100000 in
theorem xck173 : xchk cX7_term0 xt173 = true := by decide +kernel
set_option maxRecDepth 100000 in
theorem xck174 : xchk cX7_added0 xt174 = true := by decide +kernel
set_option maxRecDepth 100000 in
theorem xck175 : xchk cX7_not0 xt175 = true := by decide +kernel
set_option maxRecDepth 100000 in
theorem xck176 : xchk cX7_both0 xt176 = true := by decide +kernel
set_option maxRecDepth 100000 in
theorem xck177 : xchk cX7_either0 xt177 = true := by decide +kernel
set_option maxRecDepth 100000 in
theorem xck178 : xchk cX7_part xt178 = true := by decide +kernel
set_option maxRecDepth 100000 in
theorem xck179 : xchk cX7_read xt179 = true := by decide +kernel
set_option maxRecDepth 100000 in
theorem xck180 : xchk cX7_text xt180 = true := by decide +kernel
set_option maxRecDepth 100000 in
theorem xck181 : xchk cX7_force xt181 = true := by decide +kernel
set_option maxRecDepth 100000 in
theorem xck182 : xchk cX7_says xt182 = true := by decide +kernel
set_option maxRecDepth 100000 in
theorem xck183 : xchk cX7_apart xt183 = true := by decide +kernel
set_option maxRecDepth 100000 in
theorem xck184 : xchk cX7_meetsOf xt184 = true := by decide +kernel
set_option maxRecDepth 100000 in
theorem xck185 : xchk cX7_fadesOf xt185 = true := by decide +kernel
set_option maxRecDepth 100000 in
theorem xck186 : xchk cX7_soundsOf xt186 = true := by decide +kernel
set_option maxRecDepth 100000 in
theorem xck187 : xchk cX7_asks xt187 = true := by decide +kernel
set_option maxRecDepth 100000 in
theorem xck188 : xchk cX7_feasts xt188 = true := by decide +kernel
set_option maxRecDepth 100000 in
theorem xck189 : xchk cX7_fades xt189 = true := by decide +kernel
set_option maxRecDepth 100000 in
theorem xck190 : xchk cX7_feast xt190 = true := by decide +kernel
set_option maxRecDepth 100000 in
theorem xck191 : xchk cX7_year xt191 = true := by decide +kernel
set_option maxRecDepth 100000 in
theorem xck192 : xchk cX7_knows xt192 = true := by decide +kernel
set_option maxRecDepth 100000 in
theorem xck193 : xchk cX7_friends xt193 = true := by decide +kernel
set_option maxRecDepth 100000 in
theorem xck194 : xchk cX7_waysAll xt194 = true := by decide +kernel
set_option maxRecDepth 100000 in
theorem xck195 : xchk cX7_companies xt195 = true := by decide +kernel
set_option maxRecDepth 100000 in
theorem xck196 : xchk cX7_largest xt196 = true := by decide +kernel
set_option maxRecDepth 100000 in
theorem xck197 : xchk cX7_longest xt197 = true := by decide +kernel
set_option maxRecDepth 100000 in
theorem xck198 : xchk cX7_strengthAll xt198 = true := by decide +kernel
set_option maxRecDepth 100000 in
theorem xck199 : xchk cX7_quietest xt199 = true := by decide +kernel
set_option maxRecDepth 100000 in
theorem xck200 : xchk cX7_tellsOf xt200 = true := by decide +kernel
set_option maxRecDepth 100000 in
theorem xck201 : xchk cX7_street xt201 = true := by decide +kernel
set_option maxRecDepth 100000 in
theorem xck202 : xchk cX7_way xt202 = true := by decide +kernel
set_option maxRecDepth 100000 in
theorem xck203 : xchk cX7_laysAside xt203 = true := by decide +kernel
set_option maxRecDepth 100000 in
theorem xck204 : xchk cX7_laysBack xt204 = true := by decide +kernel
set_option maxRecDepth 100000 in
theorem xck205 : xchk cX7_lives xt205 = true := by decide +kernel
set_option maxRecDepth 100000 in
theorem xck206 : xchk cX7_run xt206 = true := by decide +kernel
set_option maxRecDepth 100000 in
theorem xck207 : xchk cX7_friendsBehind xt207 = true := by decide +kernel
set_option maxRecDepth 100000 in
theorem xck208 : xchk cX7_takes xt208 = true := by decide +kernel
set_option maxRecDepth 100000 in
theorem xck209 : xchk cX7_best xt209 = true := by decide +kernel
set_option maxRecDepth 100000 in
theorem xck210 : xchk cX7_change xt210 = true := by decide +kernel
set_option maxRecDepth 100000 in
theorem xck211 : xchk cX7_clears xt211 = true := by decide +kernel
set_option maxRecDepth 100000 in
theorem xck212 : xchk cX7_sitsAgain xt212 = true := by decide +kernel
set_option maxRecDepth 100000 in
theorem xck213 : xchk cX7_split xt213 = true := by decide +kernel
set_option maxRecDepth 100000 in
theorem xck214 : xchk cX7_missed xt214 = true := by decide +kernel
set_option maxRecDepth 100000 in
theorem xck215 : xchk cX7_match xt215 = true := by decide +kernel
set_option maxRecDepth 100000 in
theorem xck216 : xchk cX7_unlike xt216 = true := by decide +kernel
set_option maxRecDepth 100000 in
theorem xck217 : xchk cX7_limitsBy xt217 = true := by decide +kernel
set_option maxRecDepth 100000 in
theorem xck218 : xchk cX7_tells xt218 = true := by decide +kernel
set_option maxRecDepth 100000 in
theorem xck219 : xchk cX7_film xt219 = true := by decide +kernel
set_option maxRecDepth 100000 in
theorem xck220 : xchk cX7_friendsBy xt220 = true := by decide +kernel
set_option maxRecDepth 100000 in
theorem xck221 : xchk cX7_drawn xt221 = true := by decide +kernel
set_option maxRecDepth 100000 in
theorem xck222 : xchk cX7_chance xt222 = true := by decide +kernel
set_option maxRecDepth 100000 in
theorem xck223 : xchk cX7_image xt223 = true := by decide +kernel
set_option maxRecDepth 100000 in
theorem xck224 : xchk cX7_back xt224 = true := by decide +kernel
set_option maxRecDepth 100000 in
theorem xck225 : xchk cX7_count xt225 = true := by decide +kernel
set_option maxRecDepth 100000 in
theorem xck226 : xchk cX7_isSheet xt226 = true := by decide +kernel
set_option maxRecDepth 100000 in
theorem xck227 : xchk cX7_sheet xt227 = true := by decide +kernel
set_option maxRecDepth 100000 in
theorem xck228 : xchk cX7_cell xt228 = true := by decide +kernel
set_option maxRecDepth 100000 in
theorem xck229 : xchk cX7_copy xt229 = true := by decide +kernel
set_option maxRecDepth 100000 in
theorem xck230 : xchk cX7_houses xt230 = true := by decide +kernel
set_option maxRecDepth 100000 in
theorem xck231 : xchk cX7_over xt231 = true := by decide +kernel
set_option maxRecDepth 100000 in
theorem xck232 : xchk cX7_taken xt232 = true := by decide +kernel
set_option maxRecDepth 100000 in
theorem xck233 : xchk cJ6_bitCount_0f7a4 xt233 = true := by decide +kernel
set_option maxRecDepth 100000 in
theorem xck234 : xchk cJ0_length_8abf5 xt234 = true := by decide +kernel
set_option maxRecDepth 100000 in
theorem xck235 : xchk cJ0_charAt_5068e xt235 = true := by decide +kernel
set_option maxRecDepth 100000 in
theorem xck236 : xchk cJ0_coder_7d493 xt236 = true := by decide +kernel
set_option maxRecDepth 100000 in
theorem xck237 : xchk cJ0_isLatin1_aae02 xt237 = true := by decide +kernel
set_option maxRecDepth 100000 in
theorem xck238 : xchk cJ0_checkIndex_df160 xt238 = true := by decide +kernel
set_option maxRecDepth 100000 in
theorem xck239 : xchk cJ1_charAt_3b067 xt239 = true := by decide +kernel
set_option maxRecDepth 100000 in
theorem xck240 : xchk cJ2_getChar_3b067 xt240 = true := by decide +kernel
set_option maxRecDepth 100000 in
theorem xck241 : xchk cJ2_length_9d52b xt241 = true := by decide +kernel
set_option maxRecDepth 100000 in
theorem xck242 : xchk cJ2_charAt_3b067 xt242 = true := by decide +kernel
set_option maxRecDepth 100000 in
theorem xck243 : xchk cJ2_checkIndex_2214a xt243 = true := by decide +kernel
set_option maxRecDepth 100000 in
theorem xck244 : xchk cJ3_checkIndex_8e157 xt244 = true := by decide +kernel
theorem xm0 : xMIok (yX0_init, cX0_init, 0, 1, 1, 0, 2, 1, 8, xt0) := ⟨by decide +kernel, rfl, kw_3_0, kw_1_20, by decide +kernel, by decide +kernel, by decide, fun h => absurd h (by decide), fun _ => ⟨kw_2_23, by decide⟩, fun h => absurd h (by decide), fun _ => ⟨rfl, rfl⟩, xchk_ok xck0⟩
theorem xm1 : xMIok (yX0_see, cX0_see, 0, 2, 4, 0, 1, 0, 0, xt1) := ⟨by decide +kernel, rfl, kw_32_7, kw_1_20, by decide +kernel, by decide +kernel, by decide, fun h => absurd h (by decide), fun _ => ⟨kw_32_5, by decide⟩, fun _ => kw_32_6, fun h => absurd h (by decide), xchk_ok xck1⟩
theorem xm2 : xMIok (yX0_everyone, cX0_everyone, 0, 1, 1, 1, 1, 0, 0, xt2) := ⟨by decide +kernel, rfl, kw_32_14, kw_1_20, by decide +kernel, by decide +kernel, by decide, fun h => absurd h (by decide), fun _ => ⟨kw_32_12, by decide⟩, fun _ => kw_32_13, fun h => absurd h (by decide), xchk_ok xck2⟩
theorem xm3 : xMIok (yX0_turn, cX0_turn, 0, 3, 3, 0, 1, 0, 0, xt3) := ⟨by decide +kernel, rfl, kw_40_20, kw_1_20, by decide +kernel, by decide +kernel, by decide, fun h => absurd h (by decide), fun _ => ⟨kw_40_18, by decide⟩, fun _ => kw_40_19, fun h => absurd h (by decide), xchk_ok xck3⟩
theorem xm4 : xMIok (yX0_companies, cX0_companies, 0, 2, 5, 1, 1, 0, 0, xt4) := ⟨by decide +kernel, rfl, kw_32_18, kw_1_20, by decide +kernel, by decide +kernel, by decide, fun h => absurd h (by decide), fun _ => ⟨kw_32_16, by decide⟩, fun _ => kw_32_17, fun h => absurd h (by decide), xchk_ok xck4⟩
theorem xm5 : xMIok (yX0_largestCompany, cX0_largestCompany, 0, 1, 3, 1, 1, 0, 0, xt5) := ⟨by decide +kernel, rfl, kw_33_6, kw_1_20, by decide +kernel, by decide +kernel, by decide, fun h => absurd h (by decide), fun _ => ⟨kw_33_4, by decide⟩, fun _ => kw_33_5, fun h => absurd h (by decide), xchk_ok xck5⟩
theorem xm6 : xMIok (yX0_distance, cX0_distance, 0, 3, 5, 1, 1, 0, 0, xt6) := ⟨by decide +kernel, rfl, kw_34_3, kw_1_20, by decide +kernel, by decide +kernel, by decide, fun h => absurd h (by decide), fun _ => ⟨kw_34_1, by decide⟩, fun _ => kw_34_2, fun h => absurd h (by decide), xchk_ok xck6⟩
theorem xm7 : xMIok (yX0_longestWay, cX0_longestWay, 0, 2, 6, 1, 1, 0, 0, xt7) := ⟨by decide +kernel, rfl, kw_33_23, kw_1_20, by decide +kernel, by decide +kernel, by decide, fun h => absurd h (by decide), fun _ => ⟨kw_33_21, by decide⟩, fun _ => kw_33_22, fun h => absurd h (by decide), xchk_ok xck7⟩
theorem xm8 : xMIok (yX0_companyOf, cX0_companyOf, 0, 3, 5, 1, 1, 0, 0, xt8) := ⟨by decide +kernel, rfl, kw_32_22, kw_1_20, by decide +kernel, by decide +kernel, by decide, fun h => absurd h (by decide), fun _ => ⟨kw_32_20, by decide⟩, fun _ => kw_32_21, fun h => absurd h (by decide), xchk_ok xck8⟩
theorem xm9 : xMIok (yX0_further, cX0_further, 0, 2, 4, 1, 1, 0, 0, xt9) := ⟨by decide +kernel, rfl, kw_33_2, kw_1_20, by decide +kernel, by decide +kernel, by decide, fun h => absurd h (by decide), fun _ => ⟨kw_33_0, by decide⟩, fun _ => kw_33_1, fun h => absurd h (by decide), xchk_ok xck9⟩
theorem xm10 : xMIok (yX1_init, cX1_init, 1, 3, 3, 0, 2, 0, 0, xt10) := ⟨by decide +kernel, rfl, kw_6_0, kw_2_6, by decide +kernel, by decide +kernel, by decide, fun h => absurd h (by decide), fun _ => ⟨kw_5_23, by decide⟩, fun h => absurd h (by decide), fun _ => ⟨rfl, rfl⟩, xchk_ok xck10⟩
theorem xm11 : xMIok (yX1_readInto, cX1_readInto, 1, 2, 2, 1, 1, 0, 0, xt11) := ⟨by decide +kernel, rfl, kw_6_7, kw_2_6, by decide +kernel, by decide +kernel, by decide, fun h => absurd h (by decide), fun _ => ⟨kw_6_5, by decide⟩, fun _ => kw_6_6, fun h => absurd h (by decide), xchk_ok xck11⟩
theorem xm12 : xMIok (yX1_readPart, cX1_readPart, 1, 3, 3, 0, 1, 0, 0, xt12) := ⟨by decide +kernel, rfl, kw_8_8, kw_2_6, by decide +kernel, by decide +kernel, by decide, fun h => absurd h (by decide), fun _ => ⟨kw_8_6, by decide⟩, fun _ => kw_8_7, fun h => absurd h (by decide), xchk_ok xck12⟩
theorem xm13 : xMIok (yX1_read, cX1_read, 1, 3, 6, 0, 1, 0, 0, xt13) := ⟨by decide +kernel, rfl, kw_9_1, kw_2_6, by decide +kernel, by decide +kernel, by decide, fun h => absurd h (by decide), fun _ => ⟨kw_8_23, by decide⟩, fun _ => kw_9_0, fun h => absurd h (by decide), xchk_ok xck13⟩
theorem xm14 : xMIok (yX1_readOne, cX1_readOne, 1, 2, 2, 0, 1, 0, 0, xt14) := ⟨by decide +kernel, rfl, kw_9_19, kw_2_6, by decide +kernel, by decide +kernel, by decide, fun h => absurd h (by decide), fun _ => ⟨kw_9_3, by decide⟩, fun _ => kw_9_4, fun h => absurd h (by decide), xchk_ok xck14⟩
theorem xm15 : xMIok (yX1_opens, cX1_opens, 1, 2, 2, 3, 1, 0, 0, xt15) := ⟨by decide +kernel, rfl, kw_9_8, kw_2_6, by decide +kernel, by decide +kernel, by decide, fun h => absurd h (by decide), fun _ => ⟨kw_9_6, by decide⟩, fun _ => kw_9_7, fun h => absurd h (by decide), xchk_ok xck15⟩
theorem xm16 : xMIok (yX1_expect, cX1_expect, 1, 2, 2, 0, 1, 0, 0, xt16) := ⟨by decide +kernel, rfl, kw_8_12, kw_2_6, by decide +kernel, by decide +kernel, by decide, fun h => absurd h (by decide), fun _ => ⟨kw_8_10, by decide⟩, fun _ => kw_8_11, fun h => absurd h (by decide), xchk_ok xck16⟩
theorem xm17 : xMIok (yX1_next, cX1_next, 1, 1, 1, 0, 1, 0, 0, xt17) := ⟨by decide +kernel, rfl, kw_8_16, kw_2_6, by decide +kernel, by decide +kernel, by decide, fun h => absurd h (by decide), fun _ => ⟨kw_8_14, by decide⟩, fun _ => kw_8_15, fun h => absurd h (by decide), xchk_ok xck17⟩
theorem xm18 : xMIok (yX1_fail, cX1_fail, 1, 1, 1, 0, 1, 0, 0, xt18) := ⟨by decide +kernel, rfl, kw_8_20, kw_2_6, by decide +kernel, by decide +kernel, by decide, fun h => absurd h (by decide), fun _ => ⟨kw_8_18, by decide⟩, fun _ => kw_8_19, fun h => absurd h (by decide), xchk_ok xck18⟩
theorem xm19 : xMIok (yX1_levelOf, cX1_levelOf, 1, 1, 1, 1, 0, 0, 0, xt19) := ⟨by decide +kernel, rfl, kw_9_15, kw_2_6, by decide +kernel, by decide +kernel, by decide, fun _ => kw_9_14, fun h => absurd rfl h, fun h => absurd h (by decide), fun h => absurd h (by decide), xchk_ok xck19⟩
theorem xm20 : xMIok (yX1_operationOf, cX1_operationOf, 1, 1, 1, 1, 0, 0, 0, xt20) := ⟨by decide +kernel, rfl, kw_9_18, kw_2_6, by decide +kernel, by decide +kernel, by decide, fun _ => kw_9_17, fun h => absurd rfl h, fun h => absurd h (by decide), fun h => absurd h (by decide), xchk_ok xck20⟩
theorem xm21 : xMIok (yX2_init, cX2_init, 2, 1, 1, 0, 2, 1, 40, xt21) := ⟨by decide +kernel, rfl, kw_3_12, kw_2_3, by decide +kernel, by decide +kernel, by decide, fun h => absurd h (by decide), fun _ => ⟨kw_3_11, by decide⟩, fun h => absurd h (by decide), fun _ => ⟨rfl, rfl⟩, xchk_ok xck21⟩
theorem xm22 : xMIok (yX2_isMissing, cX2_isMissing, 2, 1, 1, 3, 1, 0, 0, xt22) := ⟨by decide +kernel, rfl, kw_41_12, kw_2_3, by decide +kernel, by decide +kernel, by decide, fun h => absurd h (by decide), fun _ => ⟨kw_41_10, by decide⟩, fun _ => kw_41_11, fun h => absurd h (by decide), xchk_ok xck22⟩
theorem xm23 : xMIok (yX2_lay, cX2_lay, 2, 3, 4, 0, 1, 0, 0, xt23) := ⟨by decide +kernel, rfl, kw_43_22, kw_2_3, by decide +kernel, by decide +kernel, by decide, fun h => absurd h (by decide), fun _ => ⟨kw_43_20, by decide⟩, fun _ => kw_43_21, fun h => absurd h (by decide), xchk_ok xck23⟩
theorem xm24 : xMIok (yX2_holds, cX2_holds, 2, 3, 3, 3, 1, 0, 0, xt24) := ⟨by decide +kernel, rfl, kw_47_18, kw_2_3, by decide +kernel, by decide +kernel, by decide, fun h => absurd h (by decide), fun _ => ⟨kw_47_16, by decide⟩, fun _ => kw_47_17, fun h => absurd h (by decide), xchk_ok xck24⟩
theorem xm25 : xMIok (yX2_put, cX2_put, 2, 3, 3, 0, 1, 0, 0, xt25) := ⟨by decide +kernel, rfl, kw_44_2, kw_2_3, by decide +kernel, by decide +kernel, by decide, fun h => absurd h (by decide), fun _ => ⟨kw_44_0, by decide⟩, fun _ => kw_44_1, fun h => absurd h (by decide), xchk_ok xck25⟩
theorem xm26 : xMIok (yX2_unlikeItems, cX2_unlikeItems, 2, 2, 4, 1, 1, 0, 0, xt26) := ⟨by decide +kernel, rfl, kw_41_20, kw_2_3, by decide +kernel, by decide +kernel, by decide, fun h => absurd h (by decide), fun _ => ⟨kw_41_18, by decide⟩, fun _ => kw_41_19, fun h => absurd h (by decide), xchk_ok xck26⟩
theorem xm27 : xMIok (yX3_init, cX3_init, 3, 2, 2, 0, 2, 13, 102, xt27) := ⟨by decide +kernel, rfl, kw_10_7, kw_2_11, by decide +kernel, by decide +kernel, by decide, fun h => absurd h (by decide), fun _ => ⟨kw_10_6, by decide⟩, fun h => absurd h (by decide), fun _ => ⟨rfl, rfl⟩, xchk_ok xck27⟩
theorem xm28 : xMIok (yX3_become, cX3_become, 3, 2, 3, 0, 1, 0, 0, xt28) := ⟨by decide +kernel, rfl, kw_36_16, kw_2_11, by decide +kernel, by decide +kernel, by decide, fun h => absurd h (by decide), fun _ => ⟨kw_36_14, by decide⟩, fun _ => kw_36_15, fun h => absurd h (by decide), xchk_ok xck28⟩
theorem xm29 : xMIok (yX3_add, cX3_add, 3, 3, 3, 0, 1, 0, 0, xt29) := ⟨by decide +kernel, rfl, kw_24_7, kw_2_11, by decide +kernel, by decide +kernel, by decide, fun h => absurd h (by decide), fun _ => ⟨kw_24_5, by decide⟩, fun _ => kw_24_6, fun h => absurd h (by decide), xchk_ok xck29⟩
theorem xm30 : xMIok (yX3_tie, cX3_tie, 3, 4, 4, 0, 1, 0, 0, xt30) := ⟨by decide +kernel, rfl, kw_25_6, kw_2_11, by decide +kernel, by decide +kernel, by decide, fun h => absurd h (by decide), fun _ => ⟨kw_25_4, by decide⟩, fun _ => kw_25_5, fun h => absurd h (by decide), xchk_ok xck30⟩
theorem xm31 : xMIok (yX3_knows, cX3_knows, 3, 3, 3, 3, 1, 0, 0, xt31) := ⟨by decide +kernel, rfl, kw_26_3, kw_2_11, by decide +kernel, by decide +kernel, by decide, fun h => absurd h (by decide), fun _ => ⟨kw_26_1, by decide⟩, fun _ => kw_26_2, fun h => absurd h (by decide), xchk_ok xck31⟩
theorem xm32 : xMIok (yX3_acquaintances, cX3_acquaintances, 3, 2, 4, 1, 1, 0, 0, xt32) := ⟨by decide +kernel, rfl, kw_25_23, kw_2_11, by decide +kernel, by decide +kernel, by decide, fun h => absurd h (by decide), fun _ => ⟨kw_25_21, by decide⟩, fun _ => kw_25_22, fun h => absurd h (by decide), xchk_ok xck32⟩
theorem xm33 : xMIok (yX3_friends, cX3_friends, 3, 1, 4, 1, 1, 0, 0, xt33) := ⟨by decide +kernel, rfl, kw_30_13, kw_2_11, by decide +kernel, by decide +kernel, by decide, fun h => absurd h (by decide), fun _ => ⟨kw_30_11, by decide⟩, fun _ => kw_30_12, fun h => absurd h (by decide), xchk_ok xck33⟩
theorem xm34 : xMIok (yX3_allStrength, cX3_allStrength, 3, 1, 4, 1, 1, 0, 0, xt34) := ⟨by decide +kernel, rfl, kw_33_19, kw_2_11, by decide +kernel, by decide +kernel, by decide, fun h => absurd h (by decide), fun _ => ⟨kw_33_17, by decide⟩, fun _ => kw_33_18, fun h => absurd h (by decide), xchk_ok xck34⟩
theorem xm35 : xMIok (yX3_seatsAt, cX3_seatsAt, 3, 2, 4, 1, 1, 0, 0, xt35) := ⟨by decide +kernel, rfl, kw_26_7, kw_2_11, by decide +kernel, by decide +kernel, by decide, fun h => absurd h (by decide), fun _ => ⟨kw_26_5, by decide⟩, fun _ => kw_26_6, fun h => absurd h (by decide), xchk_ok xck35⟩
theorem xm36 : xMIok (yX3_seated, cX3_seated, 3, 1, 3, 1, 1, 0, 0, xt36) := ⟨by decide +kernel, rfl, kw_46_22, kw_2_11, by decide +kernel, by decide +kernel, by decide, fun h => absurd h (by decide), fun _ => ⟨kw_46_20, by decide⟩, fun _ => kw_46_21, fun h => absurd h (by decide), xchk_ok xck36⟩
theorem xm37 : xMIok (yX3_meets, cX3_meets, 3, 3, 4, 1, 1, 0, 0, xt37) := ⟨by decide +kernel, rfl, kw_29_6, kw_2_11, by decide +kernel, by decide +kernel, by decide, fun h => absurd h (by decide), fun _ => ⟨kw_29_4, by decide⟩, fun _ => kw_29_5, fun h => absurd h (by decide), xchk_ok xck37⟩
theorem xm38 : xMIok (yX3_forgets, cX3_forgets, 3, 3, 4, 1, 1, 0, 0, xt38) := ⟨by decide +kernel, rfl, kw_29_10, kw_2_11, by decide +kernel, by decide +kernel, by decide, fun h => absurd h (by decide), fun _ => ⟨kw_29_8, by decide⟩, fun _ => kw_29_9, fun h => absurd h (by decide), xchk_ok xck38⟩
theorem xm39 : xMIok (yX3_sounds, cX3_sounds, 3, 2, 3, 1, 1, 0, 0, xt39) := ⟨by decide +kernel, rfl, kw_26_11, kw_2_11, by decide +kernel, by decide +kernel, by decide, fun h => absurd h (by decide), fun _ => ⟨kw_26_9, by decide⟩, fun _ => kw_26_10, fun h => absurd h (by decide), xchk_ok xck39⟩
theorem xm40 : xMIok (yX3_look, cX3_look, 3, 3, 3, 0, 1, 0, 0, xt40) := ⟨by decide +kernel, rfl, kw_26_15, kw_2_11, by decide +kernel, by decide +kernel, by decide, fun h => absurd h (by decide), fun _ => ⟨kw_26_13, by decide⟩, fun _ => kw_26_14, fun h => absurd h (by decide), xchk_ok xck40⟩
theorem xm41 : xMIok (yX3_holdFeast, cX3_holdFeast, 3, 1, 4, 0, 1, 0, 0, xt41) := ⟨by decide +kernel, rfl, kw_30_6, kw_2_11, by decide +kernel, by decide +kernel, by decide, fun h => absurd h (by decide), fun _ => ⟨kw_30_4, by decide⟩, fun _ => kw_30_5, fun h => absurd h (by decide), xchk_ok xck41⟩
theorem xm42 : xMIok (yX3_endYear, cX3_endYear, 3, 1, 4, 0, 1, 0, 0, xt42) := ⟨by decide +kernel, rfl, kw_31_9, kw_2_11, by decide +kernel, by decide +kernel, by decide, fun h => absurd h (by decide), fun _ => ⟨kw_31_7, by decide⟩, fun _ => kw_31_8, fun h => absurd h (by decide), xchk_ok xck42⟩
theorem xm43 : xMIok (yX3_pass, cX3_pass, 3, 2, 3, 1, 1, 0, 0, xt43) := ⟨by decide +kernel, rfl, kw_37_0, kw_2_11, by decide +kernel, by decide +kernel, by decide, fun h => absurd h (by decide), fun _ => ⟨kw_36_22, by decide⟩, fun _ => kw_36_23, fun h => absurd h (by decide), xchk_ok xck43⟩
theorem xm44 : xMIok (yX3_quietTable, cX3_quietTable, 3, 1, 5, 1, 1, 0, 0, xt44) := ⟨by decide +kernel, rfl, kw_34_7, kw_2_11, by decide +kernel, by decide +kernel, by decide, fun h => absurd h (by decide), fun _ => ⟨kw_34_5, by decide⟩, fun _ => kw_34_6, fun h => absurd h (by decide), xchk_ok xck44⟩
theorem xm45 : xMIok (yX3_dinAt, cX3_dinAt, 3, 2, 4, 1, 1, 0, 0, xt45) := ⟨by decide +kernel, rfl, kw_34_11, kw_2_11, by decide +kernel, by decide +kernel, by decide, fun h => absurd h (by decide), fun _ => ⟨kw_34_9, by decide⟩, fun _ => kw_34_10, fun h => absurd h (by decide), xchk_ok xck45⟩
theorem xm46 : xMIok (yX4_init, cX4_init, 4, 1, 1, 0, 2, 4, 643, xt46) := ⟨by decide +kernel, rfl, kw_2_16, kw_1_14, by decide +kernel, by decide +kernel, by decide, fun h => absurd h (by decide), fun _ => ⟨kw_2_15, by decide⟩, fun h => absurd h (by decide), fun _ => ⟨rfl, rfl⟩, xchk_ok xck46⟩
theorem xm47 : xMIok (yX4_put, cX4_put, 4, 2, 2, 3, 1, 0, 0, xt47) := ⟨by decide +kernel, rfl, kw_5_20, kw_1_14, by decide +kernel, by decide +kernel, by decide, fun h => absurd h (by decide), fun _ => ⟨kw_5_18, by decide⟩, fun _ => kw_5_19, fun h => absurd h (by decide), xchk_ok xck47⟩
theorem xm48 : xMIok (yX4_empty, cX4_empty, 4, 1, 1, 0, 1, 0, 0, xt48) := ⟨by decide +kernel, rfl, kw_10_4, kw_1_14, by decide +kernel, by decide +kernel, by decide, fun h => absurd h (by decide), fun _ => ⟨kw_10_2, by decide⟩, fun _ => kw_10_3, fun h => absurd h (by decide), xchk_ok xck48⟩
theorem xm49 : xMIok (yX4_cut, cX4_cut, 4, 1, 2, 0, 1, 0, 0, xt49) := ⟨by decide +kernel, rfl, kw_6_20, kw_1_14, by decide +kernel, by decide +kernel, by decide, fun h => absurd h (by decide), fun _ => ⟨kw_6_18, by decide⟩, fun _ => kw_6_19, fun h => absurd h (by decide), xchk_ok xck49⟩
theorem xm50 : xMIok (yX4_cutNumber, cX4_cutNumber, 4, 2, 3, 0, 1, 0, 0, xt50) := ⟨by decide +kernel, rfl, kw_7_7, kw_1_14, by decide +kernel, by decide +kernel, by decide, fun h => absurd h (by decide), fun _ => ⟨kw_7_5, by decide⟩, fun _ => kw_7_6, fun h => absurd h (by decide), xchk_ok xck50⟩
theorem xm51 : xMIok (yX4_cutWord, cX4_cutWord, 4, 2, 3, 0, 1, 0, 0, xt51) := ⟨by decide +kernel, rfl, kw_7_14, kw_1_14, by decide +kernel, by decide +kernel, by decide, fun h => absurd h (by decide), fun _ => ⟨kw_7_12, by decide⟩, fun _ => kw_7_13, fun h => absurd h (by decide), xchk_ok xck51⟩
theorem xm52 : xMIok (yX4_nameFrom, cX4_nameFrom, 4, 2, 2, 1, 1, 0, 0, xt52) := ⟨by decide +kernel, rfl, kw_7_18, kw_1_14, by decide +kernel, by decide +kernel, by decide, fun h => absurd h (by decide), fun _ => ⟨kw_7_16, by decide⟩, fun _ => kw_7_17, fun h => absurd h (by decide), xchk_ok xck52⟩
theorem xm53 : xMIok (yX4_keyFrom, cX4_keyFrom, 4, 2, 2, 1, 1, 0, 0, xt53) := ⟨by decide +kernel, rfl, kw_8_4, kw_1_14, by decide +kernel, by decide +kernel, by decide, fun h => absurd h (by decide), fun _ => ⟨kw_8_2, by decide⟩, fun _ => kw_8_3, fun h => absurd h (by decide), xchk_ok xck53⟩
theorem xm54 : xMIok (yX4_reads, cX4_reads, 4, 3, 4, 3, 1, 0, 0, xt54) := ⟨by decide +kernel, rfl, kw_7_22, kw_1_14, by decide +kernel, by decide +kernel, by decide, fun h => absurd h (by decide), fun _ => ⟨kw_7_20, by decide⟩, fun _ => kw_7_21, fun h => absurd h (by decide), xchk_ok xck54⟩
theorem xm55 : xMIok (yX4_isBlank, cX4_isBlank, 4, 1, 1, 3, 0, 0, 0, xt55) := ⟨by decide +kernel, rfl, kw_7_0, kw_1_14, by decide +kernel, by decide +kernel, by decide, fun _ => kw_6_23, fun h => absurd rfl h, fun h => absurd h (by decide), fun h => absurd h (by decide), xchk_ok xck55⟩
theorem xm56 : xMIok (yX4_isDigit, cX4_isDigit, 4, 1, 1, 3, 0, 0, 0, xt56) := ⟨by decide +kernel, rfl, kw_7_3, kw_1_14, by decide +kernel, by decide +kernel, by decide, fun _ => kw_7_2, fun h => absurd rfl h, fun h => absurd h (by decide), fun h => absurd h (by decide), xchk_ok xck56⟩
theorem xm57 : xMIok (yX4_isSmall, cX4_isSmall, 4, 1, 1, 3, 0, 0, 0, xt57) := ⟨by decide +kernel, rfl, kw_7_10, kw_1_14, by decide +kernel, by decide +kernel, by decide, fun _ => kw_7_9, fun h => absurd rfl h, fun h => absurd h (by decide), fun h => absurd h (by decide), xchk_ok xck57⟩
theorem xm58 : xMIok (yX5_init, cX5_init, 5, 2, 2, 0, 2, 3, 203, xt58) := ⟨by decide +kernel, rfl, kw_3_5, kw_2_1, by decide +kernel, by decide +kernel, by decide, fun h => absurd h (by decide), fun _ => ⟨kw_3_4, by decide⟩, fun h => absurd h (by decide), fun _ => ⟨rfl, rfl⟩, xchk_ok xck58⟩
theorem xm59 : xMIok (yX5_clear, cX5_clear, 5, 1, 1, 0, 1, 0, 0, xt59) := ⟨by decide +kernel, rfl, kw_6_15, kw_2_1, by decide +kernel, by decide +kernel, by decide, fun h => absurd h (by decide), fun _ => ⟨kw_6_13, by decide⟩, fun _ => kw_6_14, fun h => absurd h (by decide), xchk_ok xck59⟩
theorem xm60 : xMIok (yX5_write, cX5_write, 5, 2, 2, 0, 1, 0, 0, xt60) := ⟨by decide +kernel, rfl, kw_9_12, kw_2_1, by decide +kernel, by decide +kernel, by decide, fun h => absurd h (by decide), fun _ => ⟨kw_9_10, by decide⟩, fun _ => kw_9_11, fun h => absurd h (by decide), xchk_ok xck60⟩
theorem xm61 : xMIok (yX5_endPart, cX5_endPart, 5, 2, 2, 0, 1, 0, 0, xt61) := ⟨by decide +kernel, rfl, kw_10_0, kw_2_1, by decide +kernel, by decide +kernel, by decide, fun h => absurd h (by decide), fun _ => ⟨kw_9_22, by decide⟩, fun _ => kw_9_23, fun h => absurd h (by decide), xchk_ok xck61⟩
theorem xm62 : xMIok (yX5_value, cX5_value, 5, 3, 7, 1, 1, 0, 0, xt62) := ⟨by decide +kernel, rfl, kw_27_1, kw_2_1, by decide +kernel, by decide +kernel, by decide, fun h => absurd h (by decide), fun _ => ⟨kw_26_23, by decide⟩, fun _ => kw_27_0, fun h => absurd h (by decide), xchk_ok xck62⟩
theorem xm63 : xMIok (yX5_turned, cX5_turned, 5, 2, 2, 1, 0, 0, 0, xt63) := ⟨by decide +kernel, rfl, kw_27_10, kw_2_1, by decide +kernel, by decide +kernel, by decide, fun _ => kw_27_9, fun h => absurd rfl h, fun h => absurd h (by decide), fun h => absurd h (by decide), xchk_ok xck63⟩
theorem xm64 : xMIok (yX5_joined, cX5_joined, 5, 3, 3, 1, 0, 0, 0, xt64) := ⟨by decide +kernel, rfl, kw_27_13, kw_2_1, by decide +kernel, by decide +kernel, by decide, fun _ => kw_27_12, fun h => absurd rfl h, fun h => absurd h (by decide), fun h => absurd h (by decide), xchk_ok xck64⟩
theorem xm65 : xMIok (yX6_init, cX6_init, 6, 1, 2, 0, 2, 84, 2427, xt65) := ⟨by decide +kernel, rfl, kw_1_8, kw_1_2, by decide +kernel, by decide +kernel, by decide, fun h => absurd h (by decide), fun _ => ⟨kw_1_7, by decide⟩, fun h => absurd h (by decide), fun _ => ⟨rfl, rfl⟩, xchk_ok xck65⟩
theorem xm66 : xMIok (yX6_set, cX6_set, 6, 4, 5, 1, 1, 0, 0, xt66) := ⟨by decide +kernel, rfl, kw_12_4, kw_1_2, by decide +kernel, by decide +kernel, by decide, fun h => absurd h (by decide), fun _ => ⟨kw_12_2, by decide⟩, fun _ => kw_12_3, fun h => absurd h (by decide), xchk_ok xck66⟩
theorem xm67 : xMIok (yX6_house, cX6_house, 6, 3, 3, 1, 1, 0, 0, xt67) := ⟨by decide +kernel, rfl, kw_23_23, kw_1_2, by decide +kernel, by decide +kernel, by decide, fun h => absurd h (by decide), fun _ => ⟨kw_23_21, by decide⟩, fun _ => kw_23_22, fun h => absurd h (by decide), xchk_ok xck67⟩
theorem xm68 : xMIok (yX6_bind, cX6_bind, 6, 4, 5, 1, 1, 0, 0, xt68) := ⟨by decide +kernel, rfl, kw_24_21, kw_1_2, by decide +kernel, by decide +kernel, by decide, fun h => absurd h (by decide), fun _ => ⟨kw_24_19, by decide⟩, fun _ => kw_24_20, fun h => absurd h (by decide), xchk_ok xck68⟩
theorem xm69 : xMIok (yX6_told, cX6_told, 6, 3, 4, 1, 1, 0, 0, xt69) := ⟨by decide +kernel, rfl, kw_25_18, kw_1_2, by decide +kernel, by decide +kernel, by decide, fun h => absurd h (by decide), fun _ => ⟨kw_25_16, by decide⟩, fun _ => kw_25_17, fun h => absurd h (by decide), xchk_ok xck69⟩
theorem xm70 : xMIok (yX6_feed, cX6_feed, 6, 2, 2, 1, 1, 0, 0, xt70) := ⟨by decide +kernel, rfl, kw_27_18, kw_1_2, by decide +kernel, by decide +kernel, by decide, fun h => absurd h (by decide), fun _ => ⟨kw_27_16, by decide⟩, fun _ => kw_27_17, fun h => absurd h (by decide), xchk_ok xck70⟩
theorem xm71 : xMIok (yX6_text, cX6_text, 6, 1, 2, 1, 1, 0, 0, xt71) := ⟨by decide +kernel, rfl, kw_28_5, kw_1_2, by decide +kernel, by decide +kernel, by decide, fun h => absurd h (by decide), fun _ => ⟨kw_28_3, by decide⟩, fun _ => kw_28_4, fun h => absurd h (by decide), xchk_ok xck71⟩
theorem xm72 : xMIok (yX6_force, cX6_force, 6, 2, 3, 1, 1, 0, 0, xt72) := ⟨by decide +kernel, rfl, kw_28_13, kw_1_2, by decide +kernel, by decide +kernel, by decide, fun h => absurd h (by decide), fun _ => ⟨kw_28_11, by decide⟩, fun _ => kw_28_12, fun h => absurd h (by decide), xchk_ok xck72⟩
theorem xm73 : xMIok (yX6_asks, cX6_asks, 6, 4, 4, 1, 1, 0, 0, xt73) := ⟨by decide +kernel, rfl, kw_28_23, kw_1_2, by decide +kernel, by decide +kernel, by decide, fun h => absurd h (by decide), fun _ => ⟨kw_28_21, by decide⟩, fun _ => kw_28_22, fun h => absurd h (by decide), xchk_ok xck73⟩
theorem xm74 : xMIok (yX6_feast, cX6_feast, 6, 1, 1, 1, 1, 0, 0, xt74) := ⟨by decide +kernel, rfl, kw_30_2, kw_1_2, by decide +kernel, by decide +kernel, by decide, fun h => absurd h (by decide), fun _ => ⟨kw_30_0, by decide⟩, fun _ => kw_30_1, fun h => absurd h (by decide), xchk_ok xck74⟩
theorem xm75 : xMIok (yX6_year, cX6_year, 6, 1, 1, 1, 1, 0, 0, xt75) := ⟨by decide +kernel, rfl, kw_31_5, kw_1_2, by decide +kernel, by decide +kernel, by decide, fun h => absurd h (by decide), fun _ => ⟨kw_31_3, by decide⟩, fun _ => kw_31_4, fun h => absurd h (by decide), xchk_ok xck75⟩
theorem xm76 : xMIok (yX6_street, cX6_street, 6, 2, 2, 1, 1, 0, 0, xt76) := ⟨by decide +kernel, rfl, kw_31_23, kw_1_2, by decide +kernel, by decide +kernel, by decide, fun h => absurd h (by decide), fun _ => ⟨kw_31_21, by decide⟩, fun _ => kw_31_22, fun h => absurd h (by decide), xchk_ok xck76⟩
theorem xm77 : xMIok (yX6_way, cX6_way, 6, 3, 3, 1, 1, 0, 0, xt77) := ⟨by decide +kernel, rfl, kw_36_0, kw_1_2, by decide +kernel, by decide +kernel, by decide, fun h => absurd h (by decide), fun _ => ⟨kw_35_22, by decide⟩, fun _ => kw_35_23, fun h => absurd h (by decide), xchk_ok xck77⟩
theorem xm78 : xMIok (yX6_run, cX6_run, 6, 3, 3, 1, 1, 0, 0, xt78) := ⟨by decide +kernel, rfl, kw_36_9, kw_1_2, by decide +kernel, by decide +kernel, by decide, fun h => absurd h (by decide), fun _ => ⟨kw_36_7, by decide⟩, fun _ => kw_36_8, fun h => absurd h (by decide), xchk_ok xck78⟩
theorem xm79 : xMIok (yX6_takes, cX6_takes, 6, 2, 4, 1, 1, 0, 0, xt79) := ⟨by decide +kernel, rfl, kw_38_2, kw_1_2, by decide +kernel, by decide +kernel, by decide, fun h => absurd h (by decide), fun _ => ⟨kw_38_0, by decide⟩, fun _ => kw_38_1, fun h => absurd h (by decide), xchk_ok xck79⟩
theorem xm80 : xMIok (yX6_best, cX6_best, 6, 4, 8, 1, 1, 0, 0, xt80) := ⟨by decide +kernel, rfl, kw_38_14, kw_1_2, by decide +kernel, by decide +kernel, by decide, fun h => absurd h (by decide), fun _ => ⟨kw_38_12, by decide⟩, fun _ => kw_38_13, fun h => absurd h (by decide), xchk_ok xck80⟩
theorem xm81 : xMIok (yX6_change, cX6_change, 6, 3, 8, 1, 1, 0, 0, xt81) := ⟨by decide +kernel, rfl, kw_39_2, kw_1_2, by decide +kernel, by decide +kernel, by decide, fun h => absurd h (by decide), fun _ => ⟨kw_39_0, by decide⟩, fun _ => kw_39_1, fun h => absurd h (by decide), xchk_ok xck81⟩
theorem xm82 : xMIok (yX6_split, cX6_split, 6, 3, 8, 1, 1, 0, 0, xt82) := ⟨by decide +kernel, rfl, kw_39_14, kw_1_2, by decide +kernel, by decide +kernel, by decide, fun h => absurd h (by decide), fun _ => ⟨kw_39_12, by decide⟩, fun _ => kw_39_13, fun h => absurd h (by decide), xchk_ok xck82⟩
theorem xm83 : xMIok (yX6_missed, cX6_missed, 6, 2, 6, 1, 1, 0, 0, xt83) := ⟨by decide +kernel, rfl, kw_40_7, kw_1_2, by decide +kernel, by decide +kernel, by decide, fun h => absurd h (by decide), fun _ => ⟨kw_40_5, by decide⟩, fun _ => kw_40_6, fun h => absurd h (by decide), xchk_ok xck83⟩
theorem xm84 : xMIok (yX6_match, cX6_match, 6, 2, 7, 1, 1, 0, 0, xt84) := ⟨by decide +kernel, rfl, kw_40_15, kw_1_2, by decide +kernel, by decide +kernel, by decide, fun h => absurd h (by decide), fun _ => ⟨kw_40_13, by decide⟩, fun _ => kw_40_14, fun h => absurd h (by decide), xchk_ok xck84⟩
theorem xm85 : xMIok (yX6_tells, cX6_tells, 6, 4, 5, 1, 1, 0, 0, xt85) := ⟨by decide +kernel, rfl, kw_41_4, kw_1_2, by decide +kernel, by decide +kernel, by decide, fun h => absurd h (by decide), fun _ => ⟨kw_41_2, by decide⟩, fun _ => kw_41_3, fun h => absurd h (by decide), xchk_ok xck85⟩
theorem xm86 : xMIok (yX6_film, cX6_film, 6, 3, 5, 1, 1, 0, 0, xt86) := ⟨by decide +kernel, rfl, kw_43_18, kw_1_2, by decide +kernel, by decide +kernel, by decide, fun h => absurd h (by decide), fun _ => ⟨kw_43_16, by decide⟩, fun _ => kw_43_17, fun h => absurd h (by decide), xchk_ok xck86⟩
theorem xm87 : xMIok (yX6_drawn, cX6_drawn, 6, 3, 3, 1, 1, 0, 0, xt87) := ⟨by decide +kernel, rfl, kw_44_14, kw_1_2, by decide +kernel, by decide +kernel, by decide, fun h => absurd h (by decide), fun _ => ⟨kw_44_12, by decide⟩, fun _ => kw_44_13, fun h => absurd h (by decide), xchk_ok xck87⟩
theorem xm88 : xMIok (yX6_chance, cX6_chance, 6, 5, 7, 2, 1, 0, 0, xt88) := ⟨by decide +kernel, rfl, kw_45_8, kw_1_2, by decide +kernel, by decide +kernel, by decide, fun h => absurd h (by decide), fun _ => ⟨kw_45_6, by decide⟩, fun _ => kw_45_7, fun h => absurd h (by decide), xchk_ok xck88⟩
theorem xm89 : xMIok (yX6_image, cX6_image, 6, 1, 1, 1, 1, 0, 0, xt89) := ⟨by decide +kernel, rfl, kw_45_22, kw_1_2, by decide +kernel, by decide +kernel, by decide, fun h => absurd h (by decide), fun _ => ⟨kw_45_20, by decide⟩, fun _ => kw_45_21, fun h => absurd h (by decide), xchk_ok xck89⟩
theorem xm90 : xMIok (yX6_back, cX6_back, 6, 1, 1, 1, 1, 0, 0, xt90) := ⟨by decide +kernel, rfl, kw_46_10, kw_1_2, by decide +kernel, by decide +kernel, by decide, fun h => absurd h (by decide), fun _ => ⟨kw_46_8, by decide⟩, fun _ => kw_46_9, fun h => absurd h (by decide), xchk_ok xck90⟩
theorem xm91 : xMIok (yX6_count, cX6_count, 6, 2, 2, 1, 1, 0, 0, xt91) := ⟨by decide +kernel, rfl, kw_46_18, kw_1_2, by decide +kernel, by decide +kernel, by decide, fun h => absurd h (by decide), fun _ => ⟨kw_46_16, by decide⟩, fun _ => kw_46_17, fun h => absurd h (by decide), xchk_ok xck91⟩
theorem xm92 : xMIok (yX6_sheet, cX6_sheet, 6, 4, 4, 1, 1, 0, 0, xt92) := ⟨by decide +kernel, rfl, kw_47_6, kw_1_2, by decide +kernel, by decide +kernel, by decide, fun h => absurd h (by decide), fun _ => ⟨kw_47_4, by decide⟩, fun _ => kw_47_5, fun h => absurd h (by decide), xchk_ok xck92⟩
theorem xm93 : xMIok (yX6_cell, cX6_cell, 6, 4, 5, 1, 1, 0, 0, xt93) := ⟨by decide +kernel, rfl, kw_47_14, kw_1_2, by decide +kernel, by decide +kernel, by decide, fun h => absurd h (by decide), fun _ => ⟨kw_47_12, by decide⟩, fun _ => kw_47_13, fun h => absurd h (by decide), xchk_ok xck93⟩
theorem xm94 : xMIok (yX6_copy, cX6_copy, 6, 6, 8, 1, 1, 0, 0, xt94) := ⟨by decide +kernel, rfl, kw_48_2, kw_1_2, by decide +kernel, by decide +kernel, by decide, fun h => absurd h (by decide), fun _ => ⟨kw_48_0, by decide⟩, fun _ => kw_48_1, fun h => absurd h (by decide), xchk_ok xck94⟩
theorem xm95 : xMIok (yX6_houses, cX6_houses, 6, 5, 9, 1, 1, 0, 0, xt95) := ⟨by decide +kernel, rfl, kw_48_12, kw_1_2, by decide +kernel, by decide +kernel, by decide, fun h => absurd h (by decide), fun _ => ⟨kw_48_10, by decide⟩, fun _ => kw_48_11, fun h => absurd h (by decide), xchk_ok xck95⟩
theorem xm96 : xMIok (yX6_taken, cX6_taken, 6, 3, 3, 1, 1, 0, 0, xt96) := ⟨by decide +kernel, rfl, kw_48_22, kw_1_2, by decide +kernel, by decide +kernel, by decide, fun h => absurd h (by decide), fun _ => ⟨kw_48_20, by decide⟩, fun _ => kw_48_21, fun h => absurd h (by decide), xchk_ok xck96⟩
theorem xm97 : xMIok (yX6_isHouse, cX6_isHouse, 6, 2, 2, 3, 1, 0, 0, xt97) := ⟨by decide +kernel, rfl, kw_12_14, kw_1_2, by decide +kernel, by decide +kernel, by decide, fun h => absurd h (by decide), fun _ => ⟨kw_12_12, by decide⟩, fun _ => kw_12_13, fun h => absurd h (by decide), xchk_ok xck97⟩
theorem xm98 : xMIok (yX6_isTwo, cX6_isTwo, 6, 3, 3, 3, 1, 0, 0, xt98) := ⟨by decide +kernel, rfl, kw_25_2, kw_1_2, by decide +kernel, by decide +kernel, by decide, fun h => absurd h (by decide), fun _ => ⟨kw_25_0, by decide⟩, fun _ => kw_25_1, fun h => absurd h (by decide), xchk_ok xck98⟩
theorem xm99 : xMIok (yX6_isSheet, cX6_isSheet, 6, 1, 1, 3, 0, 0, 0, xt99) := ⟨by decide +kernel, rfl, kw_41_8, kw_1_2, by decide +kernel, by decide +kernel, by decide, fun _ => kw_41_7, fun h => absurd rfl h, fun h => absurd h (by decide), fun h => absurd h (by decide), xchk_ok xck99⟩
theorem xm100 : xMIok (yX6_isSort, cX6_isSort, 6, 1, 1, 3, 0, 0, 0, xt100) := ⟨by decide +kernel, rfl, kw_47_9, kw_1_2, by decide +kernel, by decide +kernel, by decide, fun _ => kw_47_8, fun h => absurd rfl h, fun h => absurd h (by decide), fun h => absurd h (by decide), xchk_ok xck100⟩
theorem xm101 : xMIok (yX6_isYears, cX6_isYears, 6, 1, 1, 3, 0, 0, 0, xt101) := ⟨by decide +kernel, rfl, kw_36_12, kw_1_2, by decide +kernel, by decide +kernel, by decide, fun _ => kw_36_11, fun h => absurd rfl h, fun h => absurd h (by decide), fun h => absurd h (by decide), xchk_ok xck101⟩
theorem xm102 : xMIok (yX6_isFriends, cX6_isFriends, 6, 1, 1, 3, 0, 0, 0, xt102) := ⟨by decide +kernel, rfl, kw_38_5, kw_1_2, by decide +kernel, by decide +kernel, by decide, fun _ => kw_38_4, fun h => absurd rfl h, fun h => absurd h (by decide), fun h => absurd h (by decide), xchk_ok xck102⟩
theorem xm103 : xMIok (yX6_isEither, cX6_isEither, 6, 1, 1, 3, 0, 0, 0, xt103) := ⟨by decide +kernel, rfl, kw_29_2, kw_1_2, by decide +kernel, by decide +kernel, by decide, fun _ => kw_29_1, fun h => absurd rfl h, fun h => absurd h (by decide), fun h => absurd h (by decide), xchk_ok xck103⟩
theorem xm104 : xMIok (yX6_isUnder, cX6_isUnder, 6, 2, 4, 3, 0, 0, 0, xt104) := ⟨by decide +kernel, rfl, kw_49_1, kw_1_2, by decide +kernel, by decide +kernel, by decide, fun _ => kw_49_0, fun h => absurd rfl h, fun h => absurd h (by decide), fun h => absurd h (by decide), xchk_ok xck104⟩
theorem xm105 : xMIok (yX6_setting, cX6_setting, 6, 3, 3, 1, 1, 0, 0, xt105) := ⟨by decide +kernel, rfl, kw_12_19, kw_1_2, by decide +kernel, by decide +kernel, by decide, fun h => absurd h (by decide), fun _ => ⟨kw_12_17, by decide⟩, fun _ => kw_12_18, fun h => absurd h (by decide), xchk_ok xck105⟩
theorem xm106 : xMIok (yX6_settle, cX6_settle, 6, 3, 3, 1, 1, 0, 0, xt106) := ⟨by decide +kernel, rfl, kw_24_3, kw_1_2, by decide +kernel, by decide +kernel, by decide, fun h => absurd h (by decide), fun _ => ⟨kw_24_1, by decide⟩, fun _ => kw_24_2, fun h => absurd h (by decide), xchk_ok xck106⟩
theorem xm107 : xMIok (yX6_figure, cX6_figure, 6, 3, 3, 1, 1, 0, 0, xt107) := ⟨by decide +kernel, rfl, kw_32_3, kw_1_2, by decide +kernel, by decide +kernel, by decide, fun h => absurd h (by decide), fun _ => ⟨kw_32_1, by decide⟩, fun _ => kw_32_2, fun h => absurd h (by decide), xchk_ok xck107⟩
theorem xm108 : xMIok (yX6_canChange, cX6_canChange, 6, 3, 5, 3, 1, 0, 0, xt108) := ⟨by decide +kernel, rfl, kw_39_6, kw_1_2, by decide +kernel, by decide +kernel, by decide, fun h => absurd h (by decide), fun _ => ⟨kw_39_4, by decide⟩, fun _ => kw_39_5, fun h => absurd h (by decide), xchk_ok xck108⟩
theorem xm109 : xMIok (yX6_friendsDrawn, cX6_friendsDrawn, 6, 3, 5, 1, 1, 0, 0, xt109) := ⟨by decide +kernel, rfl, kw_44_18, kw_1_2, by decide +kernel, by decide +kernel, by decide, fun h => absurd h (by decide), fun _ => ⟨kw_44_16, by decide⟩, fun _ => kw_44_17, fun h => absurd h (by decide), xchk_ok xck109⟩
theorem xm110 : xMIok (yX6_commonDivisor, cX6_commonDivisor, 6, 2, 6, 1, 0, 0, 0, xt110) := ⟨by decide +kernel, rfl, kw_45_12, kw_1_2, by decide +kernel, by decide +kernel, by decide, fun _ => kw_45_11, fun h => absurd rfl h, fun h => absurd h (by decide), fun h => absurd h (by decide), xchk_ok xck110⟩
theorem xm111 : xMIok (yX6_otherwise, cX6_otherwise, 6, 3, 3, 1, 1, 0, 0, xt111) := ⟨by decide +kernel, rfl, kw_41_16, kw_1_2, by decide +kernel, by decide +kernel, by decide, fun h => absurd h (by decide), fun _ => ⟨kw_41_14, by decide⟩, fun _ => kw_41_15, fun h => absurd h (by decide), xchk_ok xck111⟩
theorem xm112 : xMIok (yX6_possible, cX6_possible, 6, 4, 7, 1, 1, 0, 0, xt112) := ⟨by decide +kernel, rfl, kw_42_14, kw_1_2, by decide +kernel, by decide +kernel, by decide, fun h => absurd h (by decide), fun _ => ⟨kw_42_12, by decide⟩, fun _ => kw_42_13, fun h => absurd h (by decide), xchk_ok xck112⟩
theorem xm113 : xMIok (yX6_choices, cX6_choices, 6, 2, 2, 1, 1, 0, 0, xt113) := ⟨by decide +kernel, rfl, kw_42_18, kw_1_2, by decide +kernel, by decide +kernel, by decide, fun h => absurd h (by decide), fun _ => ⟨kw_42_16, by decide⟩, fun _ => kw_42_17, fun h => absurd h (by decide), xchk_ok xck113⟩
theorem xm114 : xMIok (yX6_suppose, cX6_suppose, 6, 4, 4, 0, 1, 0, 0, xt114) := ⟨by decide +kernel, rfl, kw_42_22, kw_1_2, by decide +kernel, by decide +kernel, by decide, fun h => absurd h (by decide), fun _ => ⟨kw_42_20, by decide⟩, fun _ => kw_42_21, fun h => absurd h (by decide), xchk_ok xck114⟩
theorem xm115 : xMIok (yX6_limits, cX6_limits, 6, 3, 5, 1, 1, 0, 0, xt115) := ⟨by decide +kernel, rfl, kw_42_1, kw_1_2, by decide +kernel, by decide +kernel, by decide, fun h => absurd h (by decide), fun _ => ⟨kw_41_23, by decide⟩, fun _ => kw_42_0, fun h => absurd h (by decide), xchk_ok xck115⟩
theorem xm116 : xMIok (yX6_leastLimit, cX6_leastLimit, 6, 3, 4, 1, 1, 0, 0, xt116) := ⟨by decide +kernel, rfl, kw_42_10, kw_1_2, by decide +kernel, by decide +kernel, by decide, fun h => absurd h (by decide), fun _ => ⟨kw_42_8, by decide⟩, fun _ => kw_42_9, fun h => absurd h (by decide), xchk_ok xck116⟩
theorem xm117 : xMIok (yX6_fits, cX6_fits, 6, 4, 6, 3, 1, 0, 0, xt117) := ⟨by decide +kernel, rfl, kw_42_5, kw_1_2, by decide +kernel, by decide +kernel, by decide, fun h => absurd h (by decide), fun _ => ⟨kw_42_3, by decide⟩, fun _ => kw_42_4, fun h => absurd h (by decide), xchk_ok xck117⟩
theorem xm118 : xMIok (yX7_in, cX7_in, 7, 3, 6, 3, 0, 0, 0, xt118) := ⟨by decide +kernel, rfl, kw_13_3, kw_1_5, by decide +kernel, by decide +kernel, by decide, fun _ => kw_13_2, fun h => absurd rfl h, fun h => absurd h (by decide), fun h => absurd h (by decide), xchk_ok xck118⟩
theorem xm119 : xMIok (yX7_within, cX7_within, 7, 3, 3, 1, 0, 0, 0, xt119) := ⟨by decide +kernel, rfl, kw_23_11, kw_1_5, by decide +kernel, by decide +kernel, by decide, fun _ => kw_23_10, fun h => absurd rfl h, fun h => absurd h (by decide), fun h => absurd h (by decide), xchk_ok xck119⟩
theorem xm120 : xMIok (yX7_init, cX7_init, 7, 1, 1, 0, 2, 17, 1602, xt120) := ⟨by decide +kernel, rfl, kw_10_19, kw_1_5, by decide +kernel, by decide +kernel, by decide, fun h => absurd h (by decide), fun _ => ⟨kw_10_18, by decide⟩, fun h => absurd h (by decide), fun _ => ⟨rfl, rfl⟩, xchk_ok xck120⟩
theorem xm121 : xMIok (yX7_spell, cX7_spell, 7, 10, 10, 0, 1, 0, 0, xt121) := ⟨by decide +kernel, rfl, kw_12_0, kw_1_5, by decide +kernel, by decide +kernel, by decide, fun h => absurd h (by decide), fun _ => ⟨kw_11_22, by decide⟩, fun _ => kw_11_23, fun h => absurd h (by decide), xchk_ok xck121⟩
theorem xm122 : xMIok (yX7_isHouse, cX7_isHouse, 7, 2, 2, 3, 1, 0, 0, xt122) := ⟨by decide +kernel, rfl, kw_13_7, kw_1_5, by decide +kernel, by decide +kernel, by decide, fun h => absurd h (by decide), fun _ => ⟨kw_13_5, by decide⟩, fun _ => kw_13_6, fun h => absurd h (by decide), xchk_ok xck122⟩
theorem xm123 : xMIok (yX7_isValue, cX7_isValue, 7, 2, 2, 3, 0, 0, 0, xt123) := ⟨by decide +kernel, rfl, kw_13_11, kw_1_5, by decide +kernel, by decide +kernel, by decide, fun _ => kw_13_10, fun h => absurd rfl h, fun h => absurd h (by decide), fun h => absurd h (by decide), xchk_ok xck123⟩
theorem xm124 : xMIok (yX7_set, cX7_set, 7, 4, 5, 1, 1, 0, 0, xt124) := ⟨by decide +kernel, rfl, kw_12_23, kw_1_5, by decide +kernel, by decide +kernel, by decide, fun h => absurd h (by decide), fun _ => ⟨kw_12_21, by decide⟩, fun _ => kw_12_22, fun h => absurd h (by decide), xchk_ok xck124⟩
theorem xm125 : xMIok (yX7_lays, cX7_lays, 7, 4, 4, 0, 1, 0, 0, xt125) := ⟨by decide +kernel, rfl, kw_23_19, kw_1_5, by decide +kernel, by decide +kernel, by decide, fun h => absurd h (by decide), fun _ => ⟨kw_23_17, by decide⟩, fun _ => kw_23_18, fun h => absurd h (by decide), xchk_ok xck125⟩
theorem xm126 : xMIok (yX7_strengthOf, cX7_strengthOf, 7, 3, 3, 1, 1, 0, 0, xt126) := ⟨by decide +kernel, rfl, kw_14_3, kw_1_5, by decide +kernel, by decide +kernel, by decide, fun h => absurd h (by decide), fun _ => ⟨kw_14_1, by decide⟩, fun _ => kw_14_2, fun h => absurd h (by decide), xchk_ok xck126⟩
theorem xm127 : xMIok (yX7_binds, cX7_binds, 7, 4, 5, 0, 1, 0, 0, xt127) := ⟨by decide +kernel, rfl, kw_24_17, kw_1_5, by decide +kernel, by decide +kernel, by decide, fun h => absurd h (by decide), fun _ => ⟨kw_24_15, by decide⟩, fun _ => kw_24_16, fun h => absurd h (by decide), xchk_ok xck127⟩
theorem xm128 : xMIok (yX7_house, cX7_house, 7, 3, 4, 1, 1, 0, 0, xt128) := ⟨by decide +kernel, rfl, kw_24_12, kw_1_5, by decide +kernel, by decide +kernel, by decide, fun h => absurd h (by decide), fun _ => ⟨kw_24_10, by decide⟩, fun _ => kw_24_11, fun h => absurd h (by decide), xchk_ok xck128⟩
theorem xm129 : xMIok (yX7_areTwo, cX7_areTwo, 7, 3, 3, 3, 1, 0, 0, xt129) := ⟨by decide +kernel, rfl, kw_25_14, kw_1_5, by decide +kernel, by decide +kernel, by decide, fun h => absurd h (by decide), fun _ => ⟨kw_25_12, by decide⟩, fun _ => kw_25_13, fun h => absurd h (by decide), xchk_ok xck129⟩
theorem xm130 : xMIok (yX7_bind, cX7_bind, 7, 4, 5, 1, 1, 0, 0, xt130) := ⟨by decide +kernel, rfl, kw_25_10, kw_1_5, by decide +kernel, by decide +kernel, by decide, fun h => absurd h (by decide), fun _ => ⟨kw_25_8, by decide⟩, fun _ => kw_25_9, fun h => absurd h (by decide), xchk_ok xck130⟩
theorem xm131 : xMIok (yX7_told, cX7_told, 7, 3, 6, 1, 1, 0, 0, xt131) := ⟨by decide +kernel, rfl, kw_13_19, kw_1_5, by decide +kernel, by decide +kernel, by decide, fun h => absurd h (by decide), fun _ => ⟨kw_13_17, by decide⟩, fun _ => kw_13_18, fun h => absurd h (by decide), xchk_ok xck131⟩
theorem xm132 : xMIok (yX7_seatsOf, cX7_seatsOf, 7, 2, 4, 1, 1, 0, 0, xt132) := ⟨by decide +kernel, rfl, kw_14_7, kw_1_5, by decide +kernel, by decide +kernel, by decide, fun h => absurd h (by decide), fun _ => ⟨kw_14_5, by decide⟩, fun _ => kw_14_6, fun h => absurd h (by decide), xchk_ok xck132⟩
theorem xm133 : xMIok (yX7_feed, cX7_feed, 7, 2, 2, 1, 1, 0, 0, xt133) := ⟨by decide +kernel, rfl, kw_27_23, kw_1_5, by decide +kernel, by decide +kernel, by decide, fun h => absurd h (by decide), fun _ => ⟨kw_27_21, by decide⟩, fun _ => kw_27_22, fun h => absurd h (by decide), xchk_ok xck133⟩
theorem xm134 : xMIok (yX7_byteAt, cX7_byteAt, 7, 2, 2, 1, 1, 0, 0, xt134) := ⟨by decide +kernel, rfl, kw_16_1, kw_1_5, by decide +kernel, by decide +kernel, by decide, fun h => absurd h (by decide), fun _ => ⟨kw_15_23, by decide⟩, fun _ => kw_16_0, fun h => absurd h (by decide), xchk_ok xck134⟩
theorem xm135 : xMIok (yX7_next, cX7_next, 7, 1, 3, 0, 1, 0, 0, xt135) := ⟨by decide +kernel, rfl, kw_15_15, kw_1_5, by decide +kernel, by decide +kernel, by decide, fun h => absurd h (by decide), fun _ => ⟨kw_15_13, by decide⟩, fun _ => kw_15_14, fun h => absurd h (by decide), xchk_ok xck135⟩
theorem xm136 : xMIok (yX7_fail, cX7_fail, 7, 1, 1, 0, 1, 0, 0, xt136) := ⟨by decide +kernel, rfl, kw_16_17, kw_1_5, by decide +kernel, by decide +kernel, by decide, fun h => absurd h (by decide), fun _ => ⟨kw_16_15, by decide⟩, fun _ => kw_16_16, fun h => absurd h (by decide), xchk_ok xck136⟩
theorem xm137 : xMIok (yX7_isLetter, cX7_isLetter, 7, 3, 3, 3, 1, 0, 0, xt137) := ⟨by decide +kernel, rfl, kw_16_9, kw_1_5, by decide +kernel, by decide +kernel, by decide, fun h => absurd h (by decide), fun _ => ⟨kw_16_7, by decide⟩, fun _ => kw_16_8, fun h => absurd h (by decide), xchk_ok xck137⟩
theorem xm138 : xMIok (yX7_isWord, cX7_isWord, 7, 9, 9, 3, 1, 0, 0, xt138) := ⟨by decide +kernel, rfl, kw_16_5, kw_1_5, by decide +kernel, by decide +kernel, by decide, fun h => absurd h (by decide), fun _ => ⟨kw_16_3, by decide⟩, fun _ => kw_16_4, fun h => absurd h (by decide), xchk_ok xck138⟩
theorem xm139 : xMIok (yX7_isSign, cX7_isSign, 7, 2, 2, 3, 1, 0, 0, xt139) := ⟨by decide +kernel, rfl, kw_19_0, kw_1_5, by decide +kernel, by decide +kernel, by decide, fun h => absurd h (by decide), fun _ => ⟨kw_18_22, by decide⟩, fun _ => kw_18_23, fun h => absurd h (by decide), xchk_ok xck139⟩
theorem xm140 : xMIok (yX7_opens, cX7_opens, 7, 1, 1, 3, 1, 0, 0, xt140) := ⟨by decide +kernel, rfl, kw_17_11, kw_1_5, by decide +kernel, by decide +kernel, by decide, fun h => absurd h (by decide), fun _ => ⟨kw_17_9, by decide⟩, fun _ => kw_17_10, fun h => absurd h (by decide), xchk_ok xck140⟩
theorem xm141 : xMIok (yX7_name, cX7_name, 7, 1, 1, 1, 1, 0, 0, xt141) := ⟨by decide +kernel, rfl, kw_19_4, kw_1_5, by decide +kernel, by decide +kernel, by decide, fun h => absurd h (by decide), fun _ => ⟨kw_19_2, by decide⟩, fun _ => kw_19_3, fun h => absurd h (by decide), xchk_ok xck141⟩
theorem xm142 : xMIok (yX7_atom5, cX7_atom5, 7, 1, 2, 1, 1, 0, 0, xt142) := ⟨by decide +kernel, rfl, kw_18_20, kw_1_5, by decide +kernel, by decide +kernel, by decide, fun h => absurd h (by decide), fun _ => ⟨kw_18_18, by decide⟩, fun _ => kw_18_19, fun h => absurd h (by decide), xchk_ok xck142⟩
theorem xm143 : xMIok (yX7_term5, cX7_term5, 7, 1, 2, 1, 1, 0, 0, xt143) := ⟨by decide +kernel, rfl, kw_18_16, kw_1_5, by decide +kernel, by decide +kernel, by decide, fun h => absurd h (by decide), fun _ => ⟨kw_18_14, by decide⟩, fun _ => kw_18_15, fun h => absurd h (by decide), xchk_ok xck143⟩
theorem xm144 : xMIok (yX7_added5, cX7_added5, 7, 1, 4, 1, 1, 0, 0, xt144) := ⟨by decide +kernel, rfl, kw_18_11, kw_1_5, by decide +kernel, by decide +kernel, by decide, fun h => absurd h (by decide), fun _ => ⟨kw_18_9, by decide⟩, fun _ => kw_18_10, fun h => absurd h (by decide), xchk_ok xck144⟩
theorem xm145 : xMIok (yX7_not5, cX7_not5, 7, 1, 4, 1, 1, 0, 0, xt145) := ⟨by decide +kernel, rfl, kw_18_7, kw_1_5, by decide +kernel, by decide +kernel, by decide, fun h => absurd h (by decide), fun _ => ⟨kw_18_5, by decide⟩, fun _ => kw_18_6, fun h => absurd h (by decide), xchk_ok xck145⟩
theorem xm146 : xMIok (yX7_both5, cX7_both5, 7, 1, 3, 1, 1, 0, 0, xt146) := ⟨by decide +kernel, rfl, kw_20_0, kw_1_5, by decide +kernel, by decide +kernel, by decide, fun h => absurd h (by decide), fun _ => ⟨kw_19_22, by decide⟩, fun _ => kw_19_23, fun h => absurd h (by decide), xchk_ok xck146⟩
theorem xm147 : xMIok (yX7_either5, cX7_either5, 7, 1, 3, 1, 1, 0, 0, xt147) := ⟨by decide +kernel, rfl, kw_19_20, kw_1_5, by decide +kernel, by decide +kernel, by decide, fun h => absurd h (by decide), fun _ => ⟨kw_19_18, by decide⟩, fun _ => kw_19_19, fun h => absurd h (by decide), xchk_ok xck147⟩
theorem xm148 : xMIok (yX7_atom4, cX7_atom4, 7, 1, 2, 1, 1, 0, 0, xt148) := ⟨by decide +kernel, rfl, kw_19_16, kw_1_5, by decide +kernel, by decide +kernel, by decide, fun h => absurd h (by decide), fun _ => ⟨kw_19_14, by decide⟩, fun _ => kw_19_15, fun h => absurd h (by decide), xchk_ok xck148⟩
theorem xm149 : xMIok (yX7_term4, cX7_term4, 7, 1, 2, 1, 1, 0, 0, xt149) := ⟨by decide +kernel, rfl, kw_19_12, kw_1_5, by decide +kernel, by decide +kernel, by decide, fun h => absurd h (by decide), fun _ => ⟨kw_19_10, by decide⟩, fun _ => kw_19_11, fun h => absurd h (by decide), xchk_ok xck149⟩
theorem xm150 : xMIok (yX7_added4, cX7_added4, 7, 1, 4, 1, 1, 0, 0, xt150) := ⟨by decide +kernel, rfl, kw_19_8, kw_1_5, by decide +kernel, by decide +kernel, by decide, fun h => absurd h (by decide), fun _ => ⟨kw_19_6, by decide⟩, fun _ => kw_19_7, fun h => absurd h (by decide), xchk_ok xck150⟩
theorem xm151 : xMIok (yX7_not4, cX7_not4, 7, 1, 4, 1, 1, 0, 0, xt151) := ⟨by decide +kernel, rfl, kw_18_3, kw_1_5, by decide +kernel, by decide +kernel, by decide, fun h => absurd h (by decide), fun _ => ⟨kw_18_1, by decide⟩, fun _ => kw_18_2, fun h => absurd h (by decide), xchk_ok xck151⟩
theorem xm152 : xMIok (yX7_both4, cX7_both4, 7, 1, 3, 1, 1, 0, 0, xt152) := ⟨by decide +kernel, rfl, kw_20_20, kw_1_5, by decide +kernel, by decide +kernel, by decide, fun h => absurd h (by decide), fun _ => ⟨kw_20_18, by decide⟩, fun _ => kw_20_19, fun h => absurd h (by decide), xchk_ok xck152⟩
theorem xm153 : xMIok (yX7_either4, cX7_either4, 7, 1, 3, 1, 1, 0, 0, xt153) := ⟨by decide +kernel, rfl, kw_20_16, kw_1_5, by decide +kernel, by decide +kernel, by decide, fun h => absurd h (by decide), fun _ => ⟨kw_20_14, by decide⟩, fun _ => kw_20_15, fun h => absurd h (by decide), xchk_ok xck153⟩
theorem xm154 : xMIok (yX7_atom3, cX7_atom3, 7, 1, 2, 1, 1, 0, 0, xt154) := ⟨by decide +kernel, rfl, kw_20_12, kw_1_5, by decide +kernel, by decide +kernel, by decide, fun h => absurd h (by decide), fun _ => ⟨kw_20_10, by decide⟩, fun _ => kw_20_11, fun h => absurd h (by decide), xchk_ok xck154⟩
theorem xm155 : xMIok (yX7_term3, cX7_term3, 7, 1, 2, 1, 1, 0, 0, xt155) := ⟨by decide +kernel, rfl, kw_20_8, kw_1_5, by decide +kernel, by decide +kernel, by decide, fun h => absurd h (by decide), fun _ => ⟨kw_20_6, by decide⟩, fun _ => kw_20_7, fun h => absurd h (by decide), xchk_ok xck155⟩
theorem xm156 : xMIok (yX7_added3, cX7_added3, 7, 1, 4, 1, 1, 0, 0, xt156) := ⟨by decide +kernel, rfl, kw_20_4, kw_1_5, by decide +kernel, by decide +kernel, by decide, fun h => absurd h (by decide), fun _ => ⟨kw_20_2, by decide⟩, fun _ => kw_20_3, fun h => absurd h (by decide), xchk_ok xck156⟩
theorem xm157 : xMIok (yX7_not3, cX7_not3, 7, 1, 4, 1, 1, 0, 0, xt157) := ⟨by decide +kernel, rfl, kw_17_23, kw_1_5, by decide +kernel, by decide +kernel, by decide, fun h => absurd h (by decide), fun _ => ⟨kw_17_21, by decide⟩, fun _ => kw_17_22, fun h => absurd h (by decide), xchk_ok xck157⟩
theorem xm158 : xMIok (yX7_both3, cX7_both3, 7, 1, 3, 1, 1, 0, 0, xt158) := ⟨by decide +kernel, rfl, kw_21_16, kw_1_5, by decide +kernel, by decide +kernel, by decide, fun h => absurd h (by decide), fun _ => ⟨kw_21_14, by decide⟩, fun _ => kw_21_15, fun h => absurd h (by decide), xchk_ok xck158⟩
theorem xm159 : xMIok (yX7_either3, cX7_either3, 7, 1, 3, 1, 1, 0, 0, xt159) := ⟨by decide +kernel, rfl, kw_21_12, kw_1_5, by decide +kernel, by decide +kernel, by decide, fun h => absurd h (by decide), fun _ => ⟨kw_21_10, by decide⟩, fun _ => kw_21_11, fun h => absurd h (by decide), xchk_ok xck159⟩
theorem xm160 : xMIok (yX7_atom2, cX7_atom2, 7, 1, 2, 1, 1, 0, 0, xt160) := ⟨by decide +kernel, rfl, kw_21_8, kw_1_5, by decide +kernel, by decide +kernel, by decide, fun h => absurd h (by decide), fun _ => ⟨kw_21_6, by decide⟩, fun _ => kw_21_7, fun h => absurd h (by decide), xchk_ok xck160⟩
theorem xm161 : xMIok (yX7_term2, cX7_term2, 7, 1, 2, 1, 1, 0, 0, xt161) := ⟨by decide +kernel, rfl, kw_21_4, kw_1_5, by decide +kernel, by decide +kernel, by decide, fun h => absurd h (by decide), fun _ => ⟨kw_21_2, by decide⟩, fun _ => kw_21_3, fun h => absurd h (by decide), xchk_ok xck161⟩
theorem xm162 : xMIok (yX7_added2, cX7_added2, 7, 1, 4, 1, 1, 0, 0, xt162) := ⟨by decide +kernel, rfl, kw_21_0, kw_1_5, by decide +kernel, by decide +kernel, by decide, fun h => absurd h (by decide), fun _ => ⟨kw_20_22, by decide⟩, fun _ => kw_20_23, fun h => absurd h (by decide), xchk_ok xck162⟩
theorem xm163 : xMIok (yX7_not2, cX7_not2, 7, 1, 4, 1, 1, 0, 0, xt163) := ⟨by decide +kernel, rfl, kw_17_19, kw_1_5, by decide +kernel, by decide +kernel, by decide, fun h => absurd h (by decide), fun _ => ⟨kw_17_17, by decide⟩, fun _ => kw_17_18, fun h => absurd h (by decide), xchk_ok xck163⟩
theorem xm164 : xMIok (yX7_both2, cX7_both2, 7, 1, 3, 1, 1, 0, 0, xt164) := ⟨by decide +kernel, rfl, kw_22_12, kw_1_5, by decide +kernel, by decide +kernel, by decide, fun h => absurd h (by decide), fun _ => ⟨kw_22_10, by decide⟩, fun _ => kw_22_11, fun h => absurd h (by decide), xchk_ok xck164⟩
theorem xm165 : xMIok (yX7_either2, cX7_either2, 7, 1, 3, 1, 1, 0, 0, xt165) := ⟨by decide +kernel, rfl, kw_22_8, kw_1_5, by decide +kernel, by decide +kernel, by decide, fun h => absurd h (by decide), fun _ => ⟨kw_22_6, by decide⟩, fun _ => kw_22_7, fun h => absurd h (by decide), xchk_ok xck165⟩
theorem xm166 : xMIok (yX7_atom1, cX7_atom1, 7, 1, 2, 1, 1, 0, 0, xt166) := ⟨by decide +kernel, rfl, kw_22_4, kw_1_5, by decide +kernel, by decide +kernel, by decide, fun h => absurd h (by decide), fun _ => ⟨kw_22_2, by decide⟩, fun _ => kw_22_3, fun h => absurd h (by decide), xchk_ok xck166⟩
theorem xm167 : xMIok (yX7_term1, cX7_term1, 7, 1, 2, 1, 1, 0, 0, xt167) := ⟨by decide +kernel, rfl, kw_22_0, kw_1_5, by decide +kernel, by decide +kernel, by decide, fun h => absurd h (by decide), fun _ => ⟨kw_21_22, by decide⟩, fun _ => kw_21_23, fun h => absurd h (by decide), xchk_ok xck167⟩
theorem xm168 : xMIok (yX7_added1, cX7_added1, 7, 1, 4, 1, 1, 0, 0, xt168) := ⟨by decide +kernel, rfl, kw_21_20, kw_1_5, by decide +kernel, by decide +kernel, by decide, fun h => absurd h (by decide), fun _ => ⟨kw_21_18, by decide⟩, fun _ => kw_21_19, fun h => absurd h (by decide), xchk_ok xck168⟩
theorem xm169 : xMIok (yX7_not1, cX7_not1, 7, 1, 4, 1, 1, 0, 0, xt169) := ⟨by decide +kernel, rfl, kw_17_15, kw_1_5, by decide +kernel, by decide +kernel, by decide, fun h => absurd h (by decide), fun _ => ⟨kw_17_13, by decide⟩, fun _ => kw_17_14, fun h => absurd h (by decide), xchk_ok xck169⟩
theorem xm170 : xMIok (yX7_both1, cX7_both1, 7, 1, 3, 1, 1, 0, 0, xt170) := ⟨by decide +kernel, rfl, kw_23_8, kw_1_5, by decide +kernel, by decide +kernel, by decide, fun h => absurd h (by decide), fun _ => ⟨kw_23_6, by decide⟩, fun _ => kw_23_7, fun h => absurd h (by decide), xchk_ok xck170⟩
theorem xm171 : xMIok (yX7_either1, cX7_either1, 7, 1, 3, 1, 1, 0, 0, xt171) := ⟨by decide +kernel, rfl, kw_23_4, kw_1_5, by decide +kernel, by decide +kernel, by decide, fun h => absurd h (by decide), fun _ => ⟨kw_23_2, by decide⟩, fun _ => kw_23_3, fun h => absurd h (by decide), xchk_ok xck171⟩
theorem xm172 : xMIok (yX7_atom0, cX7_atom0, 7, 1, 2, 1, 1, 0, 0, xt172) := ⟨by decide +kernel, rfl, kw_23_0, kw_1_5, by decide +kernel, by decide +kernel, by decide, fun h => absurd h (by decide), fun _ => ⟨kw_22_22, by decide⟩, fun _ => kw_22_23, fun h => absurd h (by decide), xchk_ok xck172⟩
theorem xm173 : xMIok (yX7_term0, cX7_term0, 7, 1, 2, 1, 1, 0, 0, xt173) := ⟨by decide +kernel, rfl, kw_22_20, kw_1_5, by decide +kernel, by decide +kernel, by decide, fun h => absurd h (by decide), fun _ => ⟨kw_22_18, by decide⟩, fun _ => kw_22_19, fun h => absurd h (by decide), xchk_ok xck173⟩
theorem xm174 : xMIok (yX7_added0, cX7_added0, 7, 1, 4, 1, 1, 0, 0, xt174) := ⟨by decide +kernel, rfl, kw_22_16, kw_1_5, by decide +kernel, by decide +kernel, by decide, fun h => absurd h (by decide), fun _ => ⟨kw_22_14, by decide⟩, fun _ => kw_22_15, fun h => absurd h (by decide), xchk_ok xck174⟩
theorem xm175 : xMIok (yX7_not0, cX7_not0, 7, 1, 4, 1, 1, 0, 0, xt175) := ⟨by decide +kernel, rfl, kw_17_6, kw_1_5, by decide +kernel, by decide +kernel, by decide, fun h => absurd h (by decide), fun _ => ⟨kw_17_4, by decide⟩, fun _ => kw_17_5, fun h => absurd h (by decide), xchk_ok xck175⟩
theorem xm176 : xMIok (yX7_both0, cX7_both0, 7, 1, 3, 1, 1, 0, 0, xt176) := ⟨by decide +kernel, rfl, kw_17_2, kw_1_5, by decide +kernel, by decide +kernel, by decide, fun h => absurd h (by decide), fun _ => ⟨kw_17_0, by decide⟩, fun _ => kw_17_1, fun h => absurd h (by decide), xchk_ok xck176⟩
theorem xm177 : xMIok (yX7_either0, cX7_either0, 7, 1, 3, 1, 1, 0, 0, xt177) := ⟨by decide +kernel, rfl, kw_16_22, kw_1_5, by decide +kernel, by decide +kernel, by decide, fun h => absurd h (by decide), fun _ => ⟨kw_16_20, by decide⟩, fun _ => kw_16_21, fun h => absurd h (by decide), xchk_ok xck177⟩
theorem xm178 : xMIok (yX7_part, cX7_part, 7, 2, 3, 1, 1, 0, 0, xt178) := ⟨by decide +kernel, rfl, kw_16_13, kw_1_5, by decide +kernel, by decide +kernel, by decide, fun h => absurd h (by decide), fun _ => ⟨kw_16_11, by decide⟩, fun _ => kw_16_12, fun h => absurd h (by decide), xchk_ok xck178⟩
theorem xm179 : xMIok (yX7_read, cX7_read, 7, 3, 6, 1, 1, 0, 0, xt179) := ⟨by decide +kernel, rfl, kw_15_5, kw_1_5, by decide +kernel, by decide +kernel, by decide, fun h => absurd h (by decide), fun _ => ⟨kw_15_3, by decide⟩, fun _ => kw_15_4, fun h => absurd h (by decide), xchk_ok xck179⟩
theorem xm180 : xMIok (yX7_text, cX7_text, 7, 1, 2, 1, 1, 0, 0, xt180) := ⟨by decide +kernel, rfl, kw_28_9, kw_1_5, by decide +kernel, by decide +kernel, by decide, fun h => absurd h (by decide), fun _ => ⟨kw_28_7, by decide⟩, fun _ => kw_28_8, fun h => absurd h (by decide), xchk_ok xck180⟩
theorem xm181 : xMIok (yX7_force, cX7_force, 7, 2, 3, 1, 1, 0, 0, xt181) := ⟨by decide +kernel, rfl, kw_28_19, kw_1_5, by decide +kernel, by decide +kernel, by decide, fun h => absurd h (by decide), fun _ => ⟨kw_28_17, by decide⟩, fun _ => kw_28_18, fun h => absurd h (by decide), xchk_ok xck181⟩
theorem xm182 : xMIok (yX7_says, cX7_says, 7, 4, 4, 1, 1, 0, 0, xt182) := ⟨by decide +kernel, rfl, kw_14_15, kw_1_5, by decide +kernel, by decide +kernel, by decide, fun h => absurd h (by decide), fun _ => ⟨kw_14_13, by decide⟩, fun _ => kw_14_14, fun h => absurd h (by decide), xchk_ok xck182⟩
theorem xm183 : xMIok (yX7_apart, cX7_apart, 7, 2, 2, 1, 0, 0, 0, xt183) := ⟨by decide +kernel, rfl, kw_15_1, kw_1_5, by decide +kernel, by decide +kernel, by decide, fun _ => kw_15_0, fun h => absurd rfl h, fun h => absurd h (by decide), fun h => absurd h (by decide), xchk_ok xck183⟩
theorem xm184 : xMIok (yX7_meetsOf, cX7_meetsOf, 7, 3, 5, 1, 1, 0, 0, xt184) := ⟨by decide +kernel, rfl, kw_29_18, kw_1_5, by decide +kernel, by decide +kernel, by decide, fun h => absurd h (by decide), fun _ => ⟨kw_29_16, by decide⟩, fun _ => kw_29_17, fun h => absurd h (by decide), xchk_ok xck184⟩
theorem xm185 : xMIok (yX7_fadesOf, cX7_fadesOf, 7, 3, 5, 1, 1, 0, 0, xt185) := ⟨by decide +kernel, rfl, kw_29_22, kw_1_5, by decide +kernel, by decide +kernel, by decide, fun h => absurd h (by decide), fun _ => ⟨kw_29_20, by decide⟩, fun _ => kw_29_21, fun h => absurd h (by decide), xchk_ok xck185⟩
theorem xm186 : xMIok (yX7_soundsOf, cX7_soundsOf, 7, 2, 4, 1, 1, 0, 0, xt186) := ⟨by decide +kernel, rfl, kw_14_11, kw_1_5, by decide +kernel, by decide +kernel, by decide, fun h => absurd h (by decide), fun _ => ⟨kw_14_9, by decide⟩, fun _ => kw_14_10, fun h => absurd h (by decide), xchk_ok xck186⟩
theorem xm187 : xMIok (yX7_asks, cX7_asks, 7, 4, 4, 1, 1, 0, 0, xt187) := ⟨by decide +kernel, rfl, kw_29_14, kw_1_5, by decide +kernel, by decide +kernel, by decide, fun h => absurd h (by decide), fun _ => ⟨kw_29_12, by decide⟩, fun _ => kw_29_13, fun h => absurd h (by decide), xchk_ok xck187⟩
theorem xm188 : xMIok (yX7_feasts, cX7_feasts, 7, 1, 4, 0, 1, 0, 0, xt188) := ⟨by decide +kernel, rfl, kw_30_21, kw_1_5, by decide +kernel, by decide +kernel, by decide, fun h => absurd h (by decide), fun _ => ⟨kw_30_19, by decide⟩, fun _ => kw_30_20, fun h => absurd h (by decide), xchk_ok xck188⟩
theorem xm189 : xMIok (yX7_fades, cX7_fades, 7, 1, 4, 0, 1, 0, 0, xt189) := ⟨by decide +kernel, rfl, kw_31_19, kw_1_5, by decide +kernel, by decide +kernel, by decide, fun h => absurd h (by decide), fun _ => ⟨kw_31_17, by decide⟩, fun _ => kw_31_18, fun h => absurd h (by decide), xchk_ok xck189⟩
theorem xm190 : xMIok (yX7_feast, cX7_feast, 7, 1, 1, 1, 1, 0, 0, xt190) := ⟨by decide +kernel, rfl, kw_30_17, kw_1_5, by decide +kernel, by decide +kernel, by decide, fun h => absurd h (by decide), fun _ => ⟨kw_30_15, by decide⟩, fun _ => kw_30_16, fun h => absurd h (by decide), xchk_ok xck190⟩
theorem xm191 : xMIok (yX7_year, cX7_year, 7, 1, 1, 1, 1, 0, 0, xt191) := ⟨by decide +kernel, rfl, kw_31_15, kw_1_5, by decide +kernel, by decide +kernel, by decide, fun h => absurd h (by decide), fun _ => ⟨kw_31_13, by decide⟩, fun _ => kw_31_14, fun h => absurd h (by decide), xchk_ok xck191⟩
theorem xm192 : xMIok (yX7_knows, cX7_knows, 7, 3, 3, 3, 1, 0, 0, xt192) := ⟨by decide +kernel, rfl, kw_23_15, kw_1_5, by decide +kernel, by decide +kernel, by decide, fun h => absurd h (by decide), fun _ => ⟨kw_23_13, by decide⟩, fun _ => kw_23_14, fun h => absurd h (by decide), xchk_ok xck192⟩
theorem xm193 : xMIok (yX7_friends, cX7_friends, 7, 1, 4, 1, 1, 0, 0, xt193) := ⟨by decide +kernel, rfl, kw_31_1, kw_1_5, by decide +kernel, by decide +kernel, by decide, fun h => absurd h (by decide), fun _ => ⟨kw_30_23, by decide⟩, fun _ => kw_31_0, fun h => absurd h (by decide), xchk_ok xck193⟩
theorem xm194 : xMIok (yX7_waysAll, cX7_waysAll, 7, 1, 7, 0, 1, 0, 0, xt194) := ⟨by decide +kernel, rfl, kw_35_4, kw_1_5, by decide +kernel, by decide +kernel, by decide, fun h => absurd h (by decide), fun _ => ⟨kw_35_2, by decide⟩, fun _ => kw_35_3, fun h => absurd h (by decide), xchk_ok xck194⟩
theorem xm195 : xMIok (yX7_companies, cX7_companies, 7, 1, 5, 1, 1, 0, 0, xt195) := ⟨by decide +kernel, rfl, kw_35_8, kw_1_5, by decide +kernel, by decide +kernel, by decide, fun h => absurd h (by decide), fun _ => ⟨kw_35_6, by decide⟩, fun _ => kw_35_7, fun h => absurd h (by decide), xchk_ok xck195⟩
theorem xm196 : xMIok (yX7_largest, cX7_largest, 7, 1, 5, 1, 1, 0, 0, xt196) := ⟨by decide +kernel, rfl, kw_35_12, kw_1_5, by decide +kernel, by decide +kernel, by decide, fun h => absurd h (by decide), fun _ => ⟨kw_35_10, by decide⟩, fun _ => kw_35_11, fun h => absurd h (by decide), xchk_ok xck196⟩
theorem xm197 : xMIok (yX7_longest, cX7_longest, 7, 2, 6, 1, 1, 0, 0, xt197) := ⟨by decide +kernel, rfl, kw_35_20, kw_1_5, by decide +kernel, by decide +kernel, by decide, fun h => absurd h (by decide), fun _ => ⟨kw_35_18, by decide⟩, fun _ => kw_35_19, fun h => absurd h (by decide), xchk_ok xck197⟩
theorem xm198 : xMIok (yX7_strengthAll, cX7_strengthAll, 7, 1, 4, 1, 1, 0, 0, xt198) := ⟨by decide +kernel, rfl, kw_35_16, kw_1_5, by decide +kernel, by decide +kernel, by decide, fun h => absurd h (by decide), fun _ => ⟨kw_35_14, by decide⟩, fun _ => kw_35_15, fun h => absurd h (by decide), xchk_ok xck198⟩
theorem xm199 : xMIok (yX7_quietest, cX7_quietest, 7, 1, 7, 1, 1, 0, 0, xt199) := ⟨by decide +kernel, rfl, kw_34_20, kw_1_5, by decide +kernel, by decide +kernel, by decide, fun h => absurd h (by decide), fun _ => ⟨kw_34_18, by decide⟩, fun _ => kw_34_19, fun h => absurd h (by decide), xchk_ok xck199⟩
theorem xm200 : xMIok (yX7_tellsOf, cX7_tellsOf, 7, 2, 2, 1, 1, 0, 0, xt200) := ⟨by decide +kernel, rfl, kw_35_0, kw_1_5, by decide +kernel, by decide +kernel, by decide, fun h => absurd h (by decide), fun _ => ⟨kw_34_22, by decide⟩, fun _ => kw_34_23, fun h => absurd h (by decide), xchk_ok xck200⟩
theorem xm201 : xMIok (yX7_street, cX7_street, 7, 2, 2, 1, 1, 0, 0, xt201) := ⟨by decide +kernel, rfl, kw_34_16, kw_1_5, by decide +kernel, by decide +kernel, by decide, fun h => absurd h (by decide), fun _ => ⟨kw_34_14, by decide⟩, fun _ => kw_34_15, fun h => absurd h (by decide), xchk_ok xck201⟩
theorem xm202 : xMIok (yX7_way, cX7_way, 7, 3, 3, 1, 1, 0, 0, xt202) := ⟨by decide +kernel, rfl, kw_36_5, kw_1_5, by decide +kernel, by decide +kernel, by decide, fun h => absurd h (by decide), fun _ => ⟨kw_36_3, by decide⟩, fun _ => kw_36_4, fun h => absurd h (by decide), xchk_ok xck202⟩
theorem xm203 : xMIok (yX7_laysAside, cX7_laysAside, 7, 1, 2, 0, 1, 0, 0, xt203) := ⟨by decide +kernel, rfl, kw_37_13, kw_1_5, by decide +kernel, by decide +kernel, by decide, fun h => absurd h (by decide), fun _ => ⟨kw_37_11, by decide⟩, fun _ => kw_37_12, fun h => absurd h (by decide), xchk_ok xck203⟩
theorem xm204 : xMIok (yX7_laysBack, cX7_laysBack, 7, 1, 2, 0, 1, 0, 0, xt204) := ⟨by decide +kernel, rfl, kw_37_22, kw_1_5, by decide +kernel, by decide +kernel, by decide, fun h => absurd h (by decide), fun _ => ⟨kw_37_20, by decide⟩, fun _ => kw_37_21, fun h => absurd h (by decide), xchk_ok xck204⟩
theorem xm205 : xMIok (yX7_lives, cX7_lives, 7, 2, 3, 0, 1, 0, 0, xt205) := ⟨by decide +kernel, rfl, kw_37_18, kw_1_5, by decide +kernel, by decide +kernel, by decide, fun h => absurd h (by decide), fun _ => ⟨kw_37_16, by decide⟩, fun _ => kw_37_17, fun h => absurd h (by decide), xchk_ok xck205⟩
theorem xm206 : xMIok (yX7_run, cX7_run, 7, 3, 4, 1, 1, 0, 0, xt206) := ⟨by decide +kernel, rfl, kw_37_7, kw_1_5, by decide +kernel, by decide +kernel, by decide, fun h => absurd h (by decide), fun _ => ⟨kw_37_5, by decide⟩, fun _ => kw_37_6, fun h => absurd h (by decide), xchk_ok xck206⟩
theorem xm207 : xMIok (yX7_friendsBehind, cX7_friendsBehind, 7, 2, 3, 1, 1, 0, 0, xt207) := ⟨by decide +kernel, rfl, kw_38_22, kw_1_5, by decide +kernel, by decide +kernel, by decide, fun h => absurd h (by decide), fun _ => ⟨kw_38_20, by decide⟩, fun _ => kw_38_21, fun h => absurd h (by decide), xchk_ok xck207⟩
theorem xm208 : xMIok (yX7_takes, cX7_takes, 7, 2, 3, 1, 1, 0, 0, xt208) := ⟨by decide +kernel, rfl, kw_38_9, kw_1_5, by decide +kernel, by decide +kernel, by decide, fun h => absurd h (by decide), fun _ => ⟨kw_38_7, by decide⟩, fun _ => kw_38_8, fun h => absurd h (by decide), xchk_ok xck208⟩
theorem xm209 : xMIok (yX7_best, cX7_best, 7, 4, 9, 1, 1, 0, 0, xt209) := ⟨by decide +kernel, rfl, kw_38_18, kw_1_5, by decide +kernel, by decide +kernel, by decide, fun h => absurd h (by decide), fun _ => ⟨kw_38_16, by decide⟩, fun _ => kw_38_17, fun h => absurd h (by decide), xchk_ok xck209⟩
theorem xm210 : xMIok (yX7_change, cX7_change, 7, 3, 10, 1, 1, 0, 0, xt210) := ⟨by decide +kernel, rfl, kw_39_10, kw_1_5, by decide +kernel, by decide +kernel, by decide, fun h => absurd h (by decide), fun _ => ⟨kw_39_8, by decide⟩, fun _ => kw_39_9, fun h => absurd h (by decide), xchk_ok xck210⟩
theorem xm211 : xMIok (yX7_clears, cX7_clears, 7, 1, 2, 0, 1, 0, 0, xt211) := ⟨by decide +kernel, rfl, kw_39_23, kw_1_5, by decide +kernel, by decide +kernel, by decide, fun h => absurd h (by decide), fun _ => ⟨kw_39_21, by decide⟩, fun _ => kw_39_22, fun h => absurd h (by decide), xchk_ok xck211⟩
theorem xm212 : xMIok (yX7_sitsAgain, cX7_sitsAgain, 7, 1, 2, 0, 1, 0, 0, xt212) := ⟨by decide +kernel, rfl, kw_40_3, kw_1_5, by decide +kernel, by decide +kernel, by decide, fun h => absurd h (by decide), fun _ => ⟨kw_40_1, by decide⟩, fun _ => kw_40_2, fun h => absurd h (by decide), xchk_ok xck212⟩
theorem xm213 : xMIok (yX7_split, cX7_split, 7, 3, 7, 1, 1, 0, 0, xt213) := ⟨by decide +kernel, rfl, kw_39_18, kw_1_5, by decide +kernel, by decide +kernel, by decide, fun h => absurd h (by decide), fun _ => ⟨kw_39_16, by decide⟩, fun _ => kw_39_17, fun h => absurd h (by decide), xchk_ok xck213⟩
theorem xm214 : xMIok (yX7_missed, cX7_missed, 7, 2, 6, 1, 1, 0, 0, xt214) := ⟨by decide +kernel, rfl, kw_40_11, kw_1_5, by decide +kernel, by decide +kernel, by decide, fun h => absurd h (by decide), fun _ => ⟨kw_40_9, by decide⟩, fun _ => kw_40_10, fun h => absurd h (by decide), xchk_ok xck214⟩
theorem xm215 : xMIok (yX7_match, cX7_match, 7, 2, 7, 1, 1, 0, 0, xt215) := ⟨by decide +kernel, rfl, kw_41_0, kw_1_5, by decide +kernel, by decide +kernel, by decide, fun h => absurd h (by decide), fun _ => ⟨kw_40_22, by decide⟩, fun _ => kw_40_23, fun h => absurd h (by decide), xchk_ok xck215⟩
theorem xm216 : xMIok (yX7_unlike, cX7_unlike, 7, 3, 5, 1, 1, 0, 0, xt216) := ⟨by decide +kernel, rfl, kw_43_10, kw_1_5, by decide +kernel, by decide +kernel, by decide, fun h => absurd h (by decide), fun _ => ⟨kw_43_8, by decide⟩, fun _ => kw_43_9, fun h => absurd h (by decide), xchk_ok xck216⟩
theorem xm217 : xMIok (yX7_limitsBy, cX7_limitsBy, 7, 4, 9, 1, 1, 0, 0, xt217) := ⟨by decide +kernel, rfl, kw_43_14, kw_1_5, by decide +kernel, by decide +kernel, by decide, fun h => absurd h (by decide), fun _ => ⟨kw_43_12, by decide⟩, fun _ => kw_43_13, fun h => absurd h (by decide), xchk_ok xck217⟩
theorem xm218 : xMIok (yX7_tells, cX7_tells, 7, 4, 9, 1, 1, 0, 0, xt218) := ⟨by decide +kernel, rfl, kw_43_2, kw_1_5, by decide +kernel, by decide +kernel, by decide, fun h => absurd h (by decide), fun _ => ⟨kw_43_0, by decide⟩, fun _ => kw_43_1, fun h => absurd h (by decide), xchk_ok xck218⟩
theorem xm219 : xMIok (yX7_film, cX7_film, 7, 3, 4, 1, 1, 0, 0, xt219) := ⟨by decide +kernel, rfl, kw_44_6, kw_1_5, by decide +kernel, by decide +kernel, by decide, fun h => absurd h (by decide), fun _ => ⟨kw_44_4, by decide⟩, fun _ => kw_44_5, fun h => absurd h (by decide), xchk_ok xck219⟩
theorem xm220 : xMIok (yX7_friendsBy, cX7_friendsBy, 7, 3, 5, 1, 1, 0, 0, xt220) := ⟨by decide +kernel, rfl, kw_45_3, kw_1_5, by decide +kernel, by decide +kernel, by decide, fun h => absurd h (by decide), fun _ => ⟨kw_45_1, by decide⟩, fun _ => kw_45_2, fun h => absurd h (by decide), xchk_ok xck220⟩
theorem xm221 : xMIok (yX7_drawn, cX7_drawn, 7, 3, 3, 1, 1, 0, 0, xt221) := ⟨by decide +kernel, rfl, kw_44_23, kw_1_5, by decide +kernel, by decide +kernel, by decide, fun h => absurd h (by decide), fun _ => ⟨kw_44_21, by decide⟩, fun _ => kw_44_22, fun h => absurd h (by decide), xchk_ok xck221⟩
theorem xm222 : xMIok (yX7_chance, cX7_chance, 7, 5, 13, 2, 1, 0, 0, xt222) := ⟨by decide +kernel, rfl, kw_45_17, kw_1_5, by decide +kernel, by decide +kernel, by decide, fun h => absurd h (by decide), fun _ => ⟨kw_45_15, by decide⟩, fun _ => kw_45_16, fun h => absurd h (by decide), xchk_ok xck222⟩
theorem xm223 : xMIok (yX7_image, cX7_image, 7, 1, 2, 1, 1, 0, 0, xt223) := ⟨by decide +kernel, rfl, kw_46_3, kw_1_5, by decide +kernel, by decide +kernel, by decide, fun h => absurd h (by decide), fun _ => ⟨kw_46_1, by decide⟩, fun _ => kw_46_2, fun h => absurd h (by decide), xchk_ok xck223⟩
theorem xm224 : xMIok (yX7_back, cX7_back, 7, 1, 2, 1, 1, 0, 0, xt224) := ⟨by decide +kernel, rfl, kw_46_14, kw_1_5, by decide +kernel, by decide +kernel, by decide, fun h => absurd h (by decide), fun _ => ⟨kw_46_12, by decide⟩, fun _ => kw_46_13, fun h => absurd h (by decide), xchk_ok xck224⟩
theorem xm225 : xMIok (yX7_count, cX7_count, 7, 2, 4, 1, 1, 0, 0, xt225) := ⟨by decide +kernel, rfl, kw_47_2, kw_1_5, by decide +kernel, by decide +kernel, by decide, fun h => absurd h (by decide), fun _ => ⟨kw_47_0, by decide⟩, fun _ => kw_47_1, fun h => absurd h (by decide), xchk_ok xck225⟩
theorem xm226 : xMIok (yX7_isSheet, cX7_isSheet, 7, 1, 1, 3, 0, 0, 0, xt226) := ⟨by decide +kernel, rfl, kw_43_6, kw_1_5, by decide +kernel, by decide +kernel, by decide, fun _ => kw_43_5, fun h => absurd rfl h, fun h => absurd h (by decide), fun h => absurd h (by decide), xchk_ok xck226⟩
theorem xm227 : xMIok (yX7_sheet, cX7_sheet, 7, 4, 5, 1, 1, 0, 0, xt227) := ⟨by decide +kernel, rfl, kw_44_10, kw_1_5, by decide +kernel, by decide +kernel, by decide, fun h => absurd h (by decide), fun _ => ⟨kw_44_8, by decide⟩, fun _ => kw_44_9, fun h => absurd h (by decide), xchk_ok xck227⟩
theorem xm228 : xMIok (yX7_cell, cX7_cell, 7, 4, 4, 1, 1, 0, 0, xt228) := ⟨by decide +kernel, rfl, kw_47_22, kw_1_5, by decide +kernel, by decide +kernel, by decide, fun h => absurd h (by decide), fun _ => ⟨kw_47_20, by decide⟩, fun _ => kw_47_21, fun h => absurd h (by decide), xchk_ok xck228⟩
theorem xm229 : xMIok (yX7_copy, cX7_copy, 7, 6, 9, 1, 1, 0, 0, xt229) := ⟨by decide +kernel, rfl, kw_48_8, kw_1_5, by decide +kernel, by decide +kernel, by decide, fun h => absurd h (by decide), fun _ => ⟨kw_48_6, by decide⟩, fun _ => kw_48_7, fun h => absurd h (by decide), xchk_ok xck229⟩
theorem xm230 : xMIok (yX7_houses, cX7_houses, 7, 5, 8, 1, 1, 0, 0, xt230) := ⟨by decide +kernel, rfl, kw_48_16, kw_1_5, by decide +kernel, by decide +kernel, by decide, fun h => absurd h (by decide), fun _ => ⟨kw_48_14, by decide⟩, fun _ => kw_48_15, fun h => absurd h (by decide), xchk_ok xck230⟩
theorem xm231 : xMIok (yX7_over, cX7_over, 7, 1, 1, 1, 0, 0, 0, xt231) := ⟨by decide +kernel, rfl, kw_49_9, kw_1_5, by decide +kernel, by decide +kernel, by decide, fun _ => kw_49_8, fun h => absurd rfl h, fun h => absurd h (by decide), fun h => absurd h (by decide), xchk_ok xck231⟩
theorem xm232 : xMIok (yX7_taken, cX7_taken, 7, 3, 4, 1, 1, 0, 0, xt232) := ⟨by decide +kernel, rfl, kw_49_6, kw_1_5, by decide +kernel, by decide +kernel, by decide, fun h => absurd h (by decide), fun _ => ⟨kw_49_4, by decide⟩, fun _ => kw_49_5, fun h => absurd h (by decide), xchk_ok xck232⟩
theorem xm233 : xMIok (yJ6_bitCount_0f7a4, cJ6_bitCount_0f7a4, 16, 1, 1, 1, 0, 0, 0, xt233) := ⟨by decide +kernel, rfl, kw_33_12, kw_33_11, by decide +kernel, by decide +kernel, by decide, fun _ => kw_33_10, fun h => absurd rfl h, fun h => absurd h (by decide), fun h => absurd h (by decide), xchk_ok xck233⟩
theorem xm234 : xMIok (yJ0_length_8abf5, cJ0_length_8abf5, 10, 1, 1, 1, 1, 0, 0, xt234) := ⟨by decide +kernel, rfl, kw_3_20, kw_3_19, by decide +kernel, by decide +kernel, by decide, fun h => absurd h (by decide), fun _ => ⟨kw_3_17, by decide⟩, fun _ => kw_3_18, fun h => absurd h (by decide), xchk_ok xck234⟩
theorem xm235 : xMIok (yJ0_charAt_5068e, cJ0_charAt_5068e, 10, 2, 2, 5, 1, 0, 0, xt235) := ⟨by decide +kernel, rfl, kw_4_7, kw_3_19, by decide +kernel, by decide +kernel, by decide, fun h => absurd h (by decide), fun _ => ⟨kw_4_5, by decide⟩, fun _ => kw_4_6, fun h => absurd h (by decide), xchk_ok xck235⟩
theorem xm236 : xMIok (yJ0_coder_7d493, cJ0_coder_7d493, 10, 1, 1, 4, 1, 0, 0, xt236) := ⟨by decide +kernel, rfl, kw_4_1, kw_3_19, by decide +kernel, by decide +kernel, by decide, fun h => absurd h (by decide), fun _ => ⟨kw_3_23, by decide⟩, fun _ => kw_4_0, fun h => absurd h (by decide), xchk_ok xck236⟩
theorem xm237 : xMIok (yJ0_isLatin1_aae02, cJ0_isLatin1_aae02, 10, 1, 1, 3, 1, 0, 0, xt237) := ⟨by decide +kernel, rfl, kw_4_11, kw_3_19, by decide +kernel, by decide +kernel, by decide, fun h => absurd h (by decide), fun _ => ⟨kw_4_9, by decide⟩, fun _ => kw_4_10, fun h => absurd h (by decide), xchk_ok xck237⟩
theorem xm238 : xMIok (yJ0_checkIndex_df160, cJ0_checkIndex_df160, 10, 2, 2, 0, 0, 0, 0, xt238) := ⟨by decide +kernel, rfl, kw_4_18, kw_3_19, by decide +kernel, by decide +kernel, by decide, fun _ => kw_4_17, fun h => absurd rfl h, fun h => absurd h (by decide), fun h => absurd h (by decide), xchk_ok xck238⟩
theorem xm239 : xMIok (yJ1_charAt_3b067, cJ1_charAt_3b067, 11, 2, 2, 5, 0, 0, 0, xt239) := ⟨by decide +kernel, rfl, kw_4_15, kw_4_14, by decide +kernel, by decide +kernel, by decide, fun _ => kw_4_13, fun h => absurd rfl h, fun h => absurd h (by decide), fun h => absurd h (by decide), xchk_ok xck239⟩
theorem xm240 : xMIok (yJ2_getChar_3b067, cJ2_getChar_3b067, 12, 2, 2, 5, 0, 0, 0, xt240) := ⟨by decide +kernel, rfl, kw_5_13, kw_5_2, by decide +kernel, by decide +kernel, by decide, fun _ => kw_5_12, fun h => absurd rfl h, fun h => absurd h (by decide), fun h => absurd h (by decide), xchk_ok xck240⟩
theorem xm241 : xMIok (yJ2_length_9d52b, cJ2_length_9d52b, 12, 1, 1, 1, 0, 0, 0, xt241) := ⟨by decide +kernel, rfl, kw_5_9, kw_5_2, by decide +kernel, by decide +kernel, by decide, fun _ => kw_5_8, fun h => absurd rfl h, fun h => absurd h (by decide), fun h => absurd h (by decide), xchk_ok xck241⟩
theorem xm242 : xMIok (yJ2_charAt_3b067, cJ2_charAt_3b067, 12, 2, 2, 5, 0, 0, 0, xt242) := ⟨by decide +kernel, rfl, kw_5_3, kw_5_2, by decide +kernel, by decide +kernel, by decide, fun _ => kw_5_1, fun h => absurd rfl h, fun h => absurd h (by decide), fun h => absurd h (by decide), xchk_ok xck242⟩
theorem xm243 : xMIok (yJ2_checkIndex_2214a, cJ2_checkIndex_2214a, 12, 2, 2, 0, 0, 0, 0, xt243) := ⟨by decide +kernel, rfl, kw_5_6, kw_5_2, by decide +kernel, by decide +kernel, by decide, fun _ => kw_5_5, fun h => absurd rfl h, fun h => absurd h (by decide), fun h => absurd h (by decide), xchk_ok xck243⟩
theorem xm244 : xMIok (yJ3_checkIndex_8e157, cJ3_checkIndex_8e157, 13, 3, 3, 1, 0, 0, 0, xt244) := ⟨by decide +kernel, rfl, kw_4_23, kw_4_22, by decide +kernel, by decide +kernel, by decide, fun _ => kw_4_21, fun h => absurd rfl h, fun h => absurd h (by decide), fun h => absurd h (by decide), xchk_ok xck244⟩
theorem xmi_ok0 : ∀ mi ∈ xmiL0, xMIok mi := List.forall_mem_cons.mpr ⟨xm0, List.forall_mem_cons.mpr ⟨xm1, List.forall_mem_cons.mpr ⟨xm2, List.forall_mem_cons.mpr ⟨xm3, List.forall_mem_cons.mpr ⟨xm4, List.forall_mem_cons.mpr ⟨xm5, List.forall_mem_cons.mpr ⟨xm6, List.forall_mem_cons.mpr ⟨xm7, List.forall_mem_cons.mpr ⟨xm8, List.forall_mem_cons.mpr ⟨xm9, List.forall_mem_cons.mpr ⟨xm10, List.forall_mem_cons.mpr ⟨xm11, List.forall_mem_cons.mpr ⟨xm12, List.forall_mem_cons.mpr ⟨xm13, List.forall_mem_cons.mpr ⟨xm14, List.forall_mem_cons.mpr ⟨xm15, fun _ h => absurd h List.not_mem_nil⟩⟩⟩⟩⟩⟩⟩⟩⟩⟩⟩⟩⟩⟩⟩⟩
theorem xmi_ok1 : ∀ mi ∈ xmiL1, xMIok mi := List.forall_mem_cons.mpr ⟨xm16, List.forall_mem_cons.mpr ⟨xm17, List.forall_mem_cons.mpr ⟨xm18, List.forall_mem_cons.mpr ⟨xm19, List.forall_mem_cons.mpr ⟨xm20, List.forall_mem_cons.mpr ⟨xm21, List.forall_mem_cons.mpr ⟨xm22, List.forall_mem_cons.mpr ⟨xm23, List.forall_mem_cons.mpr ⟨xm24, List.forall_mem_cons.mpr ⟨xm25, List.forall_mem_cons.mpr ⟨xm26, List.forall_mem_cons.mpr ⟨xm27, List.forall_mem_cons.mpr ⟨xm28, List.forall_mem_cons.mpr ⟨xm29, List.forall_mem_cons.mpr ⟨xm30, List.forall_mem_cons.mpr ⟨xm31, fun _ h => absurd h List.not_mem_nil⟩⟩⟩⟩⟩⟩⟩⟩⟩⟩⟩⟩⟩⟩⟩⟩
theorem xmi_ok2 : ∀ mi ∈ xmiL2, xMIok mi := List.forall_mem_cons.mpr ⟨xm32, List.forall_mem_cons.mpr ⟨xm33, List.forall_mem_cons.mpr ⟨xm34, List.forall_mem_cons.mpr ⟨xm35, List.forall_mem_cons.mpr ⟨xm36, List.forall_mem_cons.mpr ⟨xm37, List.forall_mem_cons.mpr ⟨xm38, List.forall_mem_cons.mpr ⟨xm39, List.forall_mem_cons.mpr ⟨xm40, List.forall_mem_cons.mpr ⟨xm41, List.forall_mem_cons.mpr ⟨xm42, List.forall_mem_cons.mpr ⟨xm43, List.forall_mem_cons.mpr ⟨xm44, List.forall_mem_cons.mpr ⟨xm45, List.forall_mem_cons.mpr ⟨xm46, List.forall_mem_cons.mpr ⟨xm47, fun _ h => absurd h List.not_mem_nil⟩⟩⟩⟩⟩⟩⟩⟩⟩⟩⟩⟩⟩⟩⟩⟩
theorem xmi_ok3 : ∀ mi ∈ xmiL3, xMIok mi := List.forall_mem_cons.mpr ⟨xm48, List.forall_mem_cons.mpr ⟨xm49, List.forall_mem_cons.mpr ⟨xm50, List.forall_mem_cons.mpr ⟨xm51, List.forall_mem_cons.mpr ⟨xm52, List.forall_mem_cons.mpr ⟨xm53, List.forall_mem_cons.mpr ⟨xm54, List.forall_mem_cons.mpr ⟨xm55, List.forall_mem_cons.mpr ⟨xm56, List.forall_mem_cons.mpr ⟨xm57, List.forall_mem_cons.mpr ⟨xm58, List.forall_mem_cons.mpr ⟨xm59, List.forall_mem_cons.mpr ⟨xm60, List.forall_mem_cons.mpr ⟨xm61, List.forall_mem_cons.mpr ⟨xm62, List.forall_mem_cons.mpr ⟨xm63, fun _ h => absurd h List.not_mem_nil⟩⟩⟩⟩⟩⟩⟩⟩⟩⟩⟩⟩⟩⟩⟩⟩
theorem xmi_ok4 : ∀ mi ∈ xmiL4, xMIok mi := List.forall_mem_cons.mpr ⟨xm64, List.forall_mem_cons.mpr ⟨xm65, List.forall_mem_cons.mpr ⟨xm66, List.forall_mem_cons.mpr ⟨xm67, List.forall_mem_cons.mpr ⟨xm68, List.forall_mem_cons.mpr ⟨xm69, List.forall_mem_cons.mpr ⟨xm70, List.forall_mem_cons.mpr ⟨xm71, List.forall_mem_cons.mpr ⟨xm72, List.forall_mem_cons.mpr ⟨xm73, List.forall_mem_cons.mpr ⟨xm74, List.forall_mem_cons.mpr ⟨xm75, List.forall_mem_cons.mpr ⟨xm76, List.forall_mem_cons.mpr ⟨xm77, List.forall_mem_cons.mpr ⟨xm78, List.forall_mem_cons.mpr ⟨xm79, fun _ h => absurd h List.not_mem_nil⟩⟩⟩⟩⟩⟩⟩⟩⟩⟩⟩⟩⟩⟩⟩⟩
theorem xmi_ok5 : ∀ mi ∈ xmiL5, xMIok mi := List.forall_mem_cons.mpr ⟨xm80, List.forall_mem_cons.mpr ⟨xm81, List.forall_mem_cons.mpr ⟨xm82, List.forall_mem_cons.mpr ⟨xm83, List.forall_mem_cons.mpr ⟨xm84, List.forall_mem_cons.mpr ⟨xm85, List.forall_mem_cons.mpr ⟨xm86, List.forall_mem_cons.mpr ⟨xm87, List.forall_mem_cons.mpr ⟨xm88, List.forall_mem_cons.mpr ⟨xm89, List.forall_mem_cons.mpr ⟨xm90, List.forall_mem_cons.mpr ⟨xm91, List.forall_mem_cons.mpr ⟨xm92, List.forall_mem_cons.mpr ⟨xm93, List.forall_mem_cons.mpr ⟨xm94, List.forall_mem_cons.mpr ⟨xm95, fun _ h => absurd h List.not_mem_nil⟩⟩⟩⟩⟩⟩⟩⟩⟩⟩⟩⟩⟩⟩⟩⟩
theorem xmi_ok6 : ∀ mi ∈ xmiL6, xMIok mi := List.forall_mem_cons.mpr ⟨xm96, List.forall_mem_cons.mpr ⟨xm97, List.forall_mem_cons.mpr ⟨xm98, List.forall_mem_cons.mpr ⟨xm99, List.forall_mem_cons.mpr ⟨xm100, List.forall_mem_cons.mpr ⟨xm101, List.forall_mem_cons.mpr ⟨xm102, List.forall_mem_cons.mpr ⟨xm103, List.forall_mem_cons.mpr ⟨xm104, List.forall_mem_cons.mpr ⟨xm105, List.forall_mem_cons.mpr ⟨xm106, List.forall_mem_cons.mpr ⟨xm107, List.forall_mem_cons.mpr ⟨xm108, List.forall_mem_cons.mpr ⟨xm109, List.forall_mem_cons.mpr ⟨xm110, List.forall_mem_cons.mpr ⟨xm111, fun _ h => absurd h List.not_mem_nil⟩⟩⟩⟩⟩⟩⟩⟩⟩⟩⟩⟩⟩⟩⟩⟩
theorem xmi_ok7 : ∀ mi ∈ xmiL7, xMIok mi := List.forall_mem_cons.mpr ⟨xm112, List.forall_mem_cons.mpr ⟨xm113, List.forall_mem_cons.mpr ⟨xm114, List.forall_mem_cons.mpr ⟨xm115, List.forall_mem_cons.mpr ⟨xm116, List.forall_mem_cons.mpr ⟨xm117, List.forall_mem_cons.mpr ⟨xm118, List.forall_mem_cons.mpr ⟨xm119, List.forall_mem_cons.mpr ⟨xm120, List.forall_mem_cons.mpr ⟨xm121, List.forall_mem_cons.mpr ⟨xm122, List.forall_mem_cons.mpr ⟨xm123, List.forall_mem_cons.mpr ⟨xm124, List.forall_mem_cons.mpr ⟨xm125, List.forall_mem_cons.mpr ⟨xm126, List.forall_mem_cons.mpr ⟨xm127, fun _ h => absurd h List.not_mem_nil⟩⟩⟩⟩⟩⟩⟩⟩⟩⟩⟩⟩⟩⟩⟩⟩
theorem xmi_ok8 : ∀ mi ∈ xmiL8, xMIok mi := List.forall_mem_cons.mpr ⟨xm128, List.forall_mem_cons.mpr ⟨xm129, List.forall_mem_cons.mpr ⟨xm130, List.forall_mem_cons.mpr ⟨xm131, List.forall_mem_cons.mpr ⟨xm132, List.forall_mem_cons.mpr ⟨xm133, List.forall_mem_cons.mpr ⟨xm134, List.forall_mem_cons.mpr ⟨xm135, List.forall_mem_cons.mpr ⟨xm136, List.forall_mem_cons.mpr ⟨xm137, List.forall_mem_cons.mpr ⟨xm138, List.forall_mem_cons.mpr ⟨xm139, List.forall_mem_cons.mpr ⟨xm140, List.forall_mem_cons.mpr ⟨xm141, List.forall_mem_cons.mpr ⟨xm142, List.forall_mem_cons.mpr ⟨xm143, fun _ h => absurd h List.not_mem_nil⟩⟩⟩⟩⟩⟩⟩⟩⟩⟩⟩⟩⟩⟩⟩⟩
theorem xmi_ok9 : ∀ mi ∈ xmiL9, xMIok mi := List.forall_mem_cons.mpr ⟨xm144, List.forall_mem_cons.mpr ⟨xm145, List.forall_mem_cons.mpr ⟨xm146, List.forall_mem_cons.mpr ⟨xm147, List.forall_mem_cons.mpr ⟨xm148, List.forall_mem_cons.mpr ⟨xm149, List.forall_mem_cons.mpr ⟨xm150, List.forall_mem_cons.mpr ⟨xm151, List.forall_mem_cons.mpr ⟨xm152, List.forall_mem_cons.mpr ⟨xm153, List.forall_mem_cons.mpr ⟨xm154, List.forall_mem_cons.mpr ⟨xm155, List.forall_mem_cons.mpr ⟨xm156, List.forall_mem_cons.mpr ⟨xm157, List.forall_mem_cons.mpr ⟨xm158, List.forall_mem_cons.mpr ⟨xm159, fun _ h => absurd h List.not_mem_nil⟩⟩⟩⟩⟩⟩⟩⟩⟩⟩⟩⟩⟩⟩⟩⟩
theorem xmi_ok10 : ∀ mi ∈ xmiL10, xMIok mi := List.forall_mem_cons.mpr ⟨xm160, List.forall_mem_cons.mpr ⟨xm161, List.forall_mem_cons.mpr ⟨xm162, List.forall_mem_cons.mpr ⟨xm163, List.forall_mem_cons.mpr ⟨xm164, List.forall_mem_cons.mpr ⟨xm165, List.forall_mem_cons.mpr ⟨xm166, List.forall_mem_cons.mpr ⟨xm167, List.forall_mem_cons.mpr ⟨xm168, List.forall_mem_cons.mpr ⟨xm169, List.forall_mem_cons.mpr ⟨xm170, List.forall_mem_cons.mpr ⟨xm171, List.forall_mem_cons.mpr ⟨xm172, List.forall_mem_cons.mpr ⟨xm173, List.forall_mem_cons.mpr ⟨xm174, List.forall_mem_cons.mpr ⟨xm175, fun _ h => absurd h List.not_mem_nil⟩⟩⟩⟩⟩⟩⟩⟩⟩⟩⟩⟩⟩⟩⟩⟩
theorem xmi_ok11 : ∀ mi ∈ xmiL11, xMIok mi := List.forall_mem_cons.mpr ⟨xm176, List.forall_mem_cons.mpr ⟨xm177, List.forall_mem_cons.mpr ⟨xm178, List.forall_mem_cons.mpr ⟨xm179, List.forall_mem_cons.mpr ⟨xm180, List.forall_mem_cons.mpr ⟨xm181, List.forall_mem_cons.mpr ⟨xm182, List.forall_mem_cons.mpr ⟨xm183, List.forall_mem_cons.mpr ⟨xm184, List.forall_mem_cons.mpr ⟨xm185, List.forall_mem_cons.mpr ⟨xm186, List.forall_mem_cons.mpr ⟨xm187, List.forall_mem_cons.mpr ⟨xm188, List.forall_mem_cons.mpr ⟨xm189, List.forall_mem_cons.mpr ⟨xm190, List.forall_mem_cons.mpr ⟨xm191, fun _ h => absurd h List.not_mem_nil⟩⟩⟩⟩⟩⟩⟩⟩⟩⟩⟩⟩⟩⟩⟩⟩
theorem xmi_ok12 : ∀ mi ∈ xmiL12, xMIok mi := List.forall_mem_cons.mpr ⟨xm192, List.forall_mem_cons.mpr ⟨xm193, List.forall_mem_cons.mpr ⟨xm194, List.forall_mem_cons.mpr ⟨xm195, List.forall_mem_cons.mpr ⟨xm196, List.forall_mem_cons.mpr ⟨xm197, List.forall_mem_cons.mpr ⟨xm198, List.forall_mem_cons.mpr ⟨xm199, List.forall_mem_cons.mpr ⟨xm200, List.forall_mem_cons.mpr ⟨xm201, List.forall_mem_cons.mpr ⟨xm202, List.forall_mem_cons.mpr ⟨xm203, List.forall_mem_cons.mpr ⟨xm204, List.forall_mem_cons.mpr ⟨xm205, List.forall_mem_cons.mpr ⟨xm206, List.forall_mem_cons.mpr ⟨xm207, fun _ h => absurd h List.not_mem_nil⟩⟩⟩⟩⟩⟩⟩⟩⟩⟩⟩⟩⟩⟩⟩⟩
theorem xmi_ok13 : ∀ mi ∈ xmiL13, xMIok mi := List.forall_mem_cons.mpr ⟨xm208, List.forall_mem_cons.mpr ⟨xm209, List.forall_mem_cons.mpr ⟨xm210, List.forall_mem_cons.mpr ⟨xm211, List.forall_mem_cons.mpr ⟨xm212, List.forall_mem_cons.mpr ⟨xm213, List.forall_mem_cons.mpr ⟨xm214, List.forall_mem_cons.mpr ⟨xm215, List.forall_mem_cons.mpr ⟨xm216, List.forall_mem_cons.mpr ⟨xm217, List.forall_mem_cons.mpr ⟨xm218, List.forall_mem_cons.mpr ⟨xm219, List.forall_mem_cons.mpr ⟨xm220, List.forall_mem_cons.mpr ⟨xm221, List.forall_mem_cons.mpr ⟨xm222, List.forall_mem_cons.mpr ⟨xm223, fun _ h => absurd h List.not_mem_nil⟩⟩⟩⟩⟩⟩⟩⟩⟩⟩⟩⟩⟩⟩⟩⟩
theorem xmi_ok14 : ∀ mi ∈ xmiL14, xMIok mi := List.forall_mem_cons.mpr ⟨xm224, List.forall_mem_cons.mpr ⟨xm225, List.forall_mem_cons.mpr ⟨xm226, List.forall_mem_cons.mpr ⟨xm227, List.forall_mem_cons.mpr ⟨xm228, List.forall_mem_cons.mpr ⟨xm229, List.forall_mem_cons.mpr ⟨xm230, List.forall_mem_cons.mpr ⟨xm231, List.forall_mem_cons.mpr ⟨xm232, List.forall_mem_cons.mpr ⟨xm233, List.forall_mem_cons.mpr ⟨xm234, List.forall_mem_cons.mpr ⟨xm235, List.forall_mem_cons.mpr ⟨xm236, List.forall_mem_cons.mpr ⟨xm237, List.forall_mem_cons.mpr ⟨xm238, List.forall_mem_cons.mpr ⟨xm239, fun _ h => absurd h List.not_mem_nil⟩⟩⟩⟩⟩⟩⟩⟩⟩⟩⟩⟩⟩⟩⟩⟩
theorem xmi_ok15 : ∀ mi ∈ xmiL15, xMIok mi := List.forall_mem_cons.mpr ⟨xm240, List.forall_mem_cons.mpr ⟨xm241, List.forall_mem_cons.mpr ⟨xm242, List.forall_mem_cons.mpr ⟨xm243, List.forall_mem_cons.mpr ⟨xm244, fun _ h => absurd h List.not_mem_nil⟩⟩⟩⟩⟩
theorem xmi_all : ∀ l ∈ xmiL, ∀ mi ∈ l, xMIok mi := List.forall_mem_cons.mpr ⟨xmi_ok0, List.forall_mem_cons.mpr ⟨xmi_ok1, List.forall_mem_cons.mpr ⟨xmi_ok2, List.forall_mem_cons.mpr ⟨xmi_ok3, List.forall_mem_cons.mpr ⟨xmi_ok4, List.forall_mem_cons.mpr ⟨xmi_ok5, List.forall_mem_cons.mpr ⟨xmi_ok6, List.forall_mem_cons.mpr ⟨xmi_ok7, List.forall_mem_cons.mpr ⟨xmi_ok8, List.forall_mem_cons.mpr ⟨xmi_ok9, List.forall_mem_cons.mpr ⟨xmi_ok10, List.forall_mem_cons.mpr ⟨xmi_ok11, List.forall_mem_cons.mpr ⟨xmi_ok12, List.forall_mem_cons.mpr ⟨xmi_ok13, List.forall_mem_cons.mpr ⟨xmi_ok14, List.forall_mem_cons.mpr ⟨xmi_ok15, fun _ h => absurd h List.not_mem_nil⟩⟩⟩⟩⟩⟩⟩⟩⟩⟩⟩⟩⟩⟩⟩⟩
theorem xmi_ok {j : Nat} {mi : xMI} (h : xmi j = some mi) : xMIok mi := by
  unfold xmi at h
  rw [xnth_eq] at h
  cases hl : xmiL[j / 16]? with
  | none => rw [hl] at h; cases h
  | some l =>
    rw [hl] at h
    simp only [xnth_eq] at h
    exact xmi_all l (List.mem_of_getElem? hl) mi (List.mem_of_getElem? h)
def xML (own : Nat) (e : Nat × Nat) : Prop := (e.2 = 0 ∧ Cond.methodLink (xcn own) e.1 objectInit ∈ wsL_law) ∨ (e.2 = 1 ∧ Cond.methodLink (xcn own) e.1 arraycopyName ∈ wsL_law) ∨ (e.2 = 2 ∧ Cond.methodLink (xcn own) e.1 Lib.Math.max.name ∈ wsL_law) ∨ (e.2 = 3 ∧ Cond.methodLink (xcn own) e.1 Lib.Math.min.name ∈ wsL_law) ∨ (e.2 = 4 ∧ Cond.methodLink (xcn own) e.1 Lib.Math.abs.name ∈ wsL_law) ∨ (10 ≤ e.2 ∧ ∃ nm, (xmi (e.2 - 10)).map (fun mi => mi.1) = some nm ∧ (Cond.methodLink (xcn own) e.1 nm ∈ wsL_law ∨ (own, e.1, nm) ∈ xNest))
theorem xml_ok0 : ∀ e ∈ xmlL0, xML 0 e := List.forall_mem_cons.mpr ⟨Or.inr (Or.inr (Or.inr (Or.inr (Or.inr ⟨by decide, yX0_companyOf, rfl, Or.inl kw_32_19⟩)))), List.forall_mem_cons.mpr ⟨Or.inr (Or.inr (Or.inr (Or.inr (Or.inr ⟨by decide, yX0_further, rfl, Or.inl kw_32_23⟩)))), List.forall_mem_cons.mpr ⟨Or.inr (Or.inr (Or.inl ⟨rfl, kw_33_7⟩)), List.forall_mem_cons.mpr ⟨Or.inl ⟨rfl, kw_3_1⟩, List.forall_mem_cons.mpr ⟨Or.inr (Or.inr (Or.inr (Or.inr (Or.inr ⟨by decide, yX3_knows, rfl, Or.inl kw_32_10⟩)))), List.forall_mem_cons.mpr ⟨Or.inr (Or.inr (Or.inr (Or.inr (Or.inr ⟨by decide, yX0_everyone, rfl, Or.inl kw_33_8⟩)))), List.forall_mem_cons.mpr ⟨Or.inr (Or.inr (Or.inr (Or.inr (Or.inr ⟨by decide, yJ6_bitCount_0f7a4, rfl, Or.inl kw_33_9⟩)))), List.forall_mem_cons.mpr ⟨Or.inr (Or.inr (Or.inr (Or.inr (Or.inr ⟨by decide, yX0_distance, rfl, Or.inl kw_34_0⟩)))), fun _ h => absurd h List.not_mem_nil⟩⟩⟩⟩⟩⟩⟩⟩
theorem xml_ok1 : ∀ e ∈ xmlL1, xML 1 e := List.forall_mem_cons.mpr ⟨Or.inr (Or.inr (Or.inr (Or.inr (Or.inr ⟨by decide, yX1_read, rfl, Or.inl kw_8_22⟩)))), List.forall_mem_cons.mpr ⟨Or.inr (Or.inr (Or.inr (Or.inr (Or.inr ⟨by decide, yX1_next, rfl, Or.inl kw_8_13⟩)))), List.forall_mem_cons.mpr ⟨Or.inr (Or.inr (Or.inr (Or.inr (Or.inr ⟨by decide, yX1_fail, rfl, Or.inl kw_8_17⟩)))), List.forall_mem_cons.mpr ⟨Or.inr (Or.inr (Or.inr (Or.inr (Or.inr ⟨by decide, yX5_write, rfl, Or.inl kw_9_9⟩)))), List.forall_mem_cons.mpr ⟨Or.inr (Or.inr (Or.inr (Or.inr (Or.inr ⟨by decide, yX1_readPart, rfl, Or.inl kw_8_5⟩)))), List.forall_mem_cons.mpr ⟨Or.inr (Or.inr (Or.inr (Or.inr (Or.inr ⟨by decide, yX1_expect, rfl, Or.inl kw_8_9⟩)))), List.forall_mem_cons.mpr ⟨Or.inr (Or.inr (Or.inr (Or.inr (Or.inr ⟨by decide, yX1_opens, rfl, Or.inl kw_9_5⟩)))), List.forall_mem_cons.mpr ⟨Or.inr (Or.inr (Or.inr (Or.inr (Or.inr ⟨by decide, yX1_readOne, rfl, Or.inl kw_9_2⟩)))), List.forall_mem_cons.mpr ⟨Or.inl ⟨rfl, kw_6_1⟩, List.forall_mem_cons.mpr ⟨Or.inr (Or.inr (Or.inr (Or.inr (Or.inr ⟨by decide, yX5_clear, rfl, Or.inl kw_6_12⟩)))), List.forall_mem_cons.mpr ⟨Or.inr (Or.inr (Or.inr (Or.inr (Or.inr ⟨by decide, yX4_cut, rfl, Or.inl kw_6_17⟩)))), List.forall_mem_cons.mpr ⟨Or.inr (Or.inr (Or.inr (Or.inr (Or.inr ⟨by decide, yX1_levelOf, rfl, Or.inl kw_9_13⟩)))), List.forall_mem_cons.mpr ⟨Or.inr (Or.inr (Or.inr (Or.inr (Or.inr ⟨by decide, yX1_operationOf, rfl, Or.inl kw_9_16⟩)))), List.forall_mem_cons.mpr ⟨Or.inr (Or.inr (Or.inr (Or.inr (Or.inr ⟨by decide, yX5_endPart, rfl, Or.inl kw_9_21⟩)))), fun _ h => absurd h List.not_mem_nil⟩⟩⟩⟩⟩⟩⟩⟩⟩⟩⟩⟩⟩⟩
theorem xml_ok2 : ∀ e ∈ xmlL2, xML 2 e := List.forall_mem_cons.mpr ⟨Or.inl ⟨rfl, kw_3_13⟩, fun _ h => absurd h List.not_mem_nil⟩
theorem xml_ok3 : ∀ e ∈ xmlL3, xML 3 e := List.forall_mem_cons.mpr ⟨Or.inr (Or.inl ⟨rfl, kw_36_17⟩), List.forall_mem_cons.mpr ⟨Or.inr (Or.inr (Or.inr (Or.inr (Or.inr ⟨by decide, yX3_look, rfl, Or.inl kw_26_12⟩)))), List.forall_mem_cons.mpr ⟨Or.inr (Or.inr (Or.inr (Or.inr (Or.inr ⟨by decide, yX3_seatsAt, rfl, Or.inl kw_26_21⟩)))), List.forall_mem_cons.mpr ⟨Or.inr (Or.inr (Or.inr (Or.inr (Or.inr ⟨by decide, yX5_value, rfl, Or.inl kw_26_22⟩)))), List.forall_mem_cons.mpr ⟨Or.inr (Or.inr (Or.inr (Or.inr (Or.inr ⟨by decide, yX3_knows, rfl, Or.inl kw_26_0⟩)))), List.forall_mem_cons.mpr ⟨Or.inr (Or.inr (Or.inr (Or.inr (Or.inr ⟨by decide, yX3_meets, rfl, Or.inl kw_30_8⟩)))), List.forall_mem_cons.mpr ⟨Or.inr (Or.inr (Or.inr (Or.inr (Or.inr ⟨by decide, yX3_tie, rfl, Or.inl kw_30_9⟩)))), List.forall_mem_cons.mpr ⟨Or.inr (Or.inr (Or.inr (Or.inr (Or.inr ⟨by decide, yX3_forgets, rfl, Or.inl kw_31_11⟩)))), List.forall_mem_cons.mpr ⟨Or.inl ⟨rfl, kw_10_8⟩, List.forall_mem_cons.mpr ⟨Or.inr (Or.inr (Or.inr (Or.inr (Or.inl ⟨rfl, kw_26_17⟩)))), List.forall_mem_cons.mpr ⟨Or.inr (Or.inr (Or.inr (Or.inl ⟨rfl, kw_30_7⟩))), List.forall_mem_cons.mpr ⟨Or.inr (Or.inr (Or.inl ⟨rfl, kw_31_10⟩)), List.forall_mem_cons.mpr ⟨Or.inr (Or.inr (Or.inr (Or.inr (Or.inr ⟨by decide, yX3_dinAt, rfl, Or.inl kw_34_8⟩)))), List.forall_mem_cons.mpr ⟨Or.inr (Or.inr (Or.inr (Or.inr (Or.inr ⟨by decide, yX3_sounds, rfl, Or.inl kw_34_12⟩)))), List.forall_mem_cons.mpr ⟨Or.inr (Or.inr (Or.inr (Or.inr (Or.inr ⟨by decide, yX3_holdFeast, rfl, Or.inl kw_37_1⟩)))), List.forall_mem_cons.mpr ⟨Or.inr (Or.inr (Or.inr (Or.inr (Or.inr ⟨by decide, yX3_endYear, rfl, Or.inl kw_37_2⟩)))), List.forall_mem_cons.mpr ⟨Or.inr (Or.inr (Or.inr (Or.inr (Or.inr ⟨by decide, yX3_friends, rfl, Or.inl kw_37_3⟩)))), fun _ h => absurd h List.not_mem_nil⟩⟩⟩⟩⟩⟩⟩⟩⟩⟩⟩⟩⟩⟩⟩⟩⟩
theorem xml_ok4 : ∀ e ∈ xmlL4, xML 4 e := List.forall_mem_cons.mpr ⟨Or.inr (Or.inr (Or.inr (Or.inr (Or.inr ⟨by decide, yX4_reads, rfl, Or.inl kw_7_19⟩)))), List.forall_mem_cons.mpr ⟨Or.inr (Or.inr (Or.inr (Or.inr (Or.inr ⟨by decide, yX4_isDigit, rfl, Or.inl kw_7_1⟩)))), List.forall_mem_cons.mpr ⟨Or.inr (Or.inr (Or.inr (Or.inr (Or.inr ⟨by decide, yX4_isSmall, rfl, Or.inl kw_7_8⟩)))), List.forall_mem_cons.mpr ⟨Or.inr (Or.inr (Or.inr (Or.inr (Or.inr ⟨by decide, yJ0_length_8abf5, rfl, Or.inl kw_7_23⟩)))), List.forall_mem_cons.mpr ⟨Or.inl ⟨rfl, kw_2_17⟩, List.forall_mem_cons.mpr ⟨Or.inr (Or.inr (Or.inr (Or.inr (Or.inr ⟨by decide, yX4_isBlank, rfl, Or.inl kw_6_22⟩)))), List.forall_mem_cons.mpr ⟨Or.inr (Or.inr (Or.inr (Or.inr (Or.inr ⟨by decide, yX4_cutNumber, rfl, Or.inl kw_7_4⟩)))), List.forall_mem_cons.mpr ⟨Or.inr (Or.inr (Or.inr (Or.inr (Or.inr ⟨by decide, yX4_cutWord, rfl, Or.inl kw_7_11⟩)))), List.forall_mem_cons.mpr ⟨Or.inr (Or.inr (Or.inr (Or.inr (Or.inr ⟨by decide, yX4_nameFrom, rfl, Or.inl kw_7_15⟩)))), List.forall_mem_cons.mpr ⟨Or.inr (Or.inr (Or.inr (Or.inr (Or.inr ⟨by decide, yJ0_charAt_5068e, rfl, Or.inl kw_8_0⟩)))), List.forall_mem_cons.mpr ⟨Or.inr (Or.inr (Or.inr (Or.inr (Or.inr ⟨by decide, yX4_keyFrom, rfl, Or.inl kw_8_1⟩)))), fun _ h => absurd h List.not_mem_nil⟩⟩⟩⟩⟩⟩⟩⟩⟩⟩⟩
theorem xml_ok5 : ∀ e ∈ xmlL5, xML 5 e := List.forall_mem_cons.mpr ⟨Or.inl ⟨rfl, kw_3_6⟩, List.forall_mem_cons.mpr ⟨Or.inr (Or.inr (Or.inr (Or.inl ⟨rfl, kw_27_2⟩))), List.forall_mem_cons.mpr ⟨Or.inr (Or.inr (Or.inl ⟨rfl, kw_27_5⟩)), List.forall_mem_cons.mpr ⟨Or.inr (Or.inr (Or.inr (Or.inr (Or.inr ⟨by decide, yX5_turned, rfl, Or.inl kw_27_8⟩)))), List.forall_mem_cons.mpr ⟨Or.inr (Or.inr (Or.inr (Or.inr (Or.inr ⟨by decide, yX5_joined, rfl, Or.inl kw_27_11⟩)))), fun _ h => absurd h List.not_mem_nil⟩⟩⟩⟩⟩
theorem xml_ok6 : ∀ e ∈ xmlL6, xML 6 e := List.forall_mem_cons.mpr ⟨Or.inr (Or.inr (Or.inr (Or.inr (Or.inr ⟨by decide, yX3_become, rfl, Or.inl kw_36_13⟩)))), List.forall_mem_cons.mpr ⟨Or.inr (Or.inr (Or.inr (Or.inr (Or.inr ⟨by decide, yX6_isHouse, rfl, Or.inl kw_12_11⟩)))), List.forall_mem_cons.mpr ⟨Or.inr (Or.inr (Or.inr (Or.inr (Or.inr ⟨by decide, yX6_isEither, rfl, Or.inl kw_29_0⟩)))), List.forall_mem_cons.mpr ⟨Or.inr (Or.inr (Or.inr (Or.inr (Or.inr ⟨by decide, yX3_pass, rfl, Or.inl kw_36_21⟩)))), List.forall_mem_cons.mpr ⟨Or.inr (Or.inr (Or.inr (Or.inr (Or.inr ⟨by decide, yX6_isSheet, rfl, Or.inl kw_41_6⟩)))), List.forall_mem_cons.mpr ⟨Or.inr (Or.inr (Or.inr (Or.inr (Or.inr ⟨by decide, yX2_isMissing, rfl, Or.inl kw_41_9⟩)))), List.forall_mem_cons.mpr ⟨Or.inr (Or.inr (Or.inr (Or.inr (Or.inr ⟨by decide, yX3_holdFeast, rfl, Or.inl kw_30_3⟩)))), List.forall_mem_cons.mpr ⟨Or.inr (Or.inr (Or.inr (Or.inr (Or.inr ⟨by decide, yX3_friends, rfl, Or.inl kw_30_10⟩)))), List.forall_mem_cons.mpr ⟨Or.inr (Or.inr (Or.inr (Or.inr (Or.inr ⟨by decide, yX0_see, rfl, Or.inl kw_32_4⟩)))), List.forall_mem_cons.mpr ⟨Or.inr (Or.inr (Or.inr (Or.inr (Or.inr ⟨by decide, yX6_isYears, rfl, Or.inl kw_36_10⟩)))), List.forall_mem_cons.mpr ⟨Or.inr (Or.inr (Or.inr (Or.inr (Or.inr ⟨by decide, yX2_holds, rfl, Or.inl kw_47_15⟩)))), List.forall_mem_cons.mpr ⟨Or.inr (Or.inr (Or.inr (Or.inr (Or.inr ⟨by decide, yX3_init, rfl, Or.inl kw_10_5⟩)))), List.forall_mem_cons.mpr ⟨Or.inr (Or.inr (Or.inr (Or.inr (Or.inr ⟨by decide, yX6_setting, rfl, Or.inl kw_12_16⟩)))), List.forall_mem_cons.mpr ⟨Or.inr (Or.inr (Or.inr (Or.inr (Or.inr ⟨by decide, yX0_longestWay, rfl, Or.inl kw_33_20⟩)))), List.forall_mem_cons.mpr ⟨Or.inr (Or.inr (Or.inr (Or.inr (Or.inr ⟨by decide, yX2_lay, rfl, Or.inl kw_43_19⟩)))), List.forall_mem_cons.mpr ⟨Or.inr (Or.inr (Or.inr (Or.inr (Or.inr ⟨by decide, yX4_put, rfl, Or.inl kw_5_17⟩)))), List.forall_mem_cons.mpr ⟨Or.inr (Or.inr (Or.inr (Or.inr (Or.inr ⟨by decide, yX1_readInto, rfl, Or.inl kw_6_4⟩)))), List.forall_mem_cons.mpr ⟨Or.inr (Or.inr (Or.inr (Or.inr (Or.inr ⟨by decide, yX4_empty, rfl, Or.inl kw_10_1⟩)))), List.forall_mem_cons.mpr ⟨Or.inr (Or.inr (Or.inr (Or.inr (Or.inr ⟨by decide, yX6_settle, rfl, Or.inl kw_24_0⟩)))), List.forall_mem_cons.mpr ⟨Or.inr (Or.inr (Or.inr (Or.inr (Or.inr ⟨by decide, yX6_isTwo, rfl, Or.inl kw_24_23⟩)))), List.forall_mem_cons.mpr ⟨Or.inr (Or.inr (Or.inr (Or.inr (Or.inr ⟨by decide, yX6_figure, rfl, Or.inl kw_32_0⟩)))), List.forall_mem_cons.mpr ⟨Or.inr (Or.inr (Or.inr (Or.inr (Or.inr ⟨by decide, yX0_everyone, rfl, Or.inl kw_32_11⟩)))), List.forall_mem_cons.mpr ⟨Or.inr (Or.inr (Or.inr (Or.inr (Or.inr ⟨by decide, yX0_companies, rfl, Or.inl kw_32_15⟩)))), List.forall_mem_cons.mpr ⟨Or.inr (Or.inr (Or.inr (Or.inr (Or.inr ⟨by decide, yX6_isFriends, rfl, Or.inl kw_38_3⟩)))), List.forall_mem_cons.mpr ⟨Or.inr (Or.inr (Or.inr (Or.inr (Or.inr ⟨by decide, yX0_turn, rfl, Or.inl kw_40_17⟩)))), List.forall_mem_cons.mpr ⟨Or.inr (Or.inr (Or.inr (Or.inr (Or.inr ⟨by decide, yX2_unlikeItems, rfl, Or.inl kw_41_17⟩)))), List.forall_mem_cons.mpr ⟨Or.inr (Or.inr (Or.inr (Or.inr (Or.inr ⟨by decide, yX6_fits, rfl, Or.inl kw_42_2⟩)))), List.forall_mem_cons.mpr ⟨Or.inr (Or.inr (Or.inr (Or.inr (Or.inr ⟨by decide, yX2_put, rfl, Or.inl kw_43_23⟩)))), List.forall_mem_cons.mpr ⟨Or.inr (Or.inr (Or.inr (Or.inr (Or.inr ⟨by decide, yX6_friendsDrawn, rfl, Or.inl kw_44_15⟩)))), List.forall_mem_cons.mpr ⟨Or.inr (Or.inr (Or.inr (Or.inr (Or.inr ⟨by decide, yX6_isSort, rfl, Or.inl kw_47_7⟩)))), List.forall_mem_cons.mpr ⟨Or.inl ⟨rfl, kw_1_9⟩, List.forall_mem_cons.mpr ⟨Or.inr (Or.inr (Or.inr (Or.inr (Or.inr ⟨by decide, yX5_init, rfl, Or.inl kw_3_3⟩)))), List.forall_mem_cons.mpr ⟨Or.inr (Or.inr (Or.inr (Or.inr (Or.inr ⟨by decide, yJ0_length_8abf5, rfl, Or.inl kw_3_16⟩)))), List.forall_mem_cons.mpr ⟨Or.inr (Or.inr (Or.inr (Or.inr (Or.inr ⟨by decide, yJ0_charAt_5068e, rfl, Or.inl kw_4_4⟩)))), List.forall_mem_cons.mpr ⟨Or.inr (Or.inr (Or.inr (Or.inr (Or.inr ⟨by decide, yX1_init, rfl, Or.inl kw_5_22⟩)))), List.forall_mem_cons.mpr ⟨Or.inr (Or.inr (Or.inr (Or.inr (Or.inr ⟨by decide, yX3_add, rfl, Or.inl kw_24_4⟩)))), List.forall_mem_cons.mpr ⟨Or.inr (Or.inr (Or.inr (Or.inr (Or.inr ⟨by decide, yX3_tie, rfl, Or.inl kw_25_3⟩)))), List.forall_mem_cons.mpr ⟨Or.inr (Or.inr (Or.inr (Or.inr (Or.inr ⟨by decide, yX3_acquaintances, rfl, Or.inl kw_25_20⟩)))), List.forall_mem_cons.mpr ⟨Or.inr (Or.inr (Or.inr (Or.inr (Or.inr ⟨by decide, yX3_seatsAt, rfl, Or.inl kw_26_4⟩)))), List.forall_mem_cons.mpr ⟨Or.inr (Or.inr (Or.inr (Or.inr (Or.inr ⟨by decide, yX3_sounds, rfl, Or.inl kw_26_8⟩)))), List.forall_mem_cons.mpr ⟨Or.inr (Or.inr (Or.inr (Or.inr (Or.inr ⟨by decide, yX3_meets, rfl, Or.inl kw_29_3⟩)))), List.forall_mem_cons.mpr ⟨Or.inr (Or.inr (Or.inr (Or.inr (Or.inr ⟨by decide, yX3_forgets, rfl, Or.inl kw_29_7⟩)))), List.forall_mem_cons.mpr ⟨Or.inr (Or.inr (Or.inr (Or.inr (Or.inr ⟨by decide, yX3_endYear, rfl, Or.inl kw_31_6⟩)))), List.forall_mem_cons.mpr ⟨Or.inr (Or.inr (Or.inr (Or.inr (Or.inr ⟨by decide, yX0_largestCompany, rfl, Or.inl kw_33_3⟩)))), List.forall_mem_cons.mpr ⟨Or.inr (Or.inr (Or.inr (Or.inr (Or.inr ⟨by decide, yX3_allStrength, rfl, Or.inl kw_33_16⟩)))), List.forall_mem_cons.mpr ⟨Or.inr (Or.inr (Or.inr (Or.inr (Or.inr ⟨by decide, yX3_quietTable, rfl, Or.inl kw_34_4⟩)))), List.forall_mem_cons.mpr ⟨Or.inr (Or.inr (Or.inr (Or.inr (Or.inr ⟨by decide, yX0_distance, rfl, Or.inl kw_36_1⟩)))), List.forall_mem_cons.mpr ⟨Or.inr (Or.inr (Or.inr (Or.inr (Or.inr ⟨by decide, yX6_canChange, rfl, Or.inl kw_39_3⟩)))), List.forall_mem_cons.mpr ⟨Or.inr (Or.inr (Or.inr (Or.inr (Or.inr ⟨by decide, yX3_knows, rfl, Or.inl kw_40_16⟩)))), List.forall_mem_cons.mpr ⟨Or.inr (Or.inr (Or.inr (Or.inr (Or.inr ⟨by decide, yX6_otherwise, rfl, Or.inl kw_41_13⟩)))), List.forall_mem_cons.mpr ⟨Or.inr (Or.inr (Or.inr (Or.inr (Or.inr ⟨by decide, yX6_limits, rfl, Or.inl kw_41_22⟩)))), List.forall_mem_cons.mpr ⟨Or.inr (Or.inr (Or.inr (Or.inr (Or.inr ⟨by decide, yX6_leastLimit, rfl, Or.inl kw_42_7⟩)))), List.forall_mem_cons.mpr ⟨Or.inr (Or.inr (Or.inr (Or.inr (Or.inr ⟨by decide, yX6_possible, rfl, Or.inl kw_42_11⟩)))), List.forall_mem_cons.mpr ⟨Or.inr (Or.inr (Or.inr (Or.inr (Or.inr ⟨by decide, yX6_choices, rfl, Or.inl kw_42_15⟩)))), List.forall_mem_cons.mpr ⟨Or.inr (Or.inr (Or.inr (Or.inr (Or.inr ⟨by decide, yX6_suppose, rfl, Or.inl kw_42_19⟩)))), List.forall_mem_cons.mpr ⟨Or.inr (Or.inr (Or.inr (Or.inr (Or.inr ⟨by decide, yX6_commonDivisor, rfl, Or.inl kw_45_10⟩)))), List.forall_mem_cons.mpr ⟨Or.inr (Or.inr (Or.inl ⟨rfl, kw_45_13⟩)), List.forall_mem_cons.mpr ⟨Or.inr (Or.inr (Or.inr (Or.inr (Or.inr ⟨by decide, yX3_seated, rfl, Or.inl kw_46_19⟩)))), List.forall_mem_cons.mpr ⟨Or.inr (Or.inl ⟨rfl, kw_48_4⟩), List.forall_mem_cons.mpr ⟨Or.inr (Or.inr (Or.inr (Or.inr (Or.inr ⟨by decide, yX6_isUnder, rfl, Or.inl kw_48_23⟩)))), List.forall_mem_cons.mpr ⟨Or.inr (Or.inr (Or.inr (Or.inr (Or.inr ⟨by decide, yX4_init, rfl, Or.inr (by decide)⟩)))), List.forall_mem_cons.mpr ⟨Or.inr (Or.inr (Or.inr (Or.inr (Or.inr ⟨by decide, yX0_init, rfl, Or.inr (by decide)⟩)))), List.forall_mem_cons.mpr ⟨Or.inr (Or.inr (Or.inr (Or.inr (Or.inr ⟨by decide, yX2_init, rfl, Or.inr (by decide)⟩)))), fun _ h => absurd h List.not_mem_nil⟩⟩⟩⟩⟩⟩⟩⟩⟩⟩⟩⟩⟩⟩⟩⟩⟩⟩⟩⟩⟩⟩⟩⟩⟩⟩⟩⟩⟩⟩⟩⟩⟩⟩⟩⟩⟩⟩⟩⟩⟩⟩⟩⟩⟩⟩⟩⟩⟩⟩⟩⟩⟩⟩⟩⟩⟩⟩⟩⟩⟩⟩⟩
theorem xml_ok7 : ∀ e ∈ xmlL7, xML 7 e := List.forall_mem_cons.mpr ⟨Or.inr (Or.inr (Or.inr (Or.inr (Or.inr ⟨by decide, yX7_next, rfl, Or.inl kw_15_12⟩)))), List.forall_mem_cons.mpr ⟨Or.inr (Or.inr (Or.inr (Or.inr (Or.inr ⟨by decide, yX7_isSign, rfl, Or.inl kw_18_21⟩)))), List.forall_mem_cons.mpr ⟨Or.inr (Or.inr (Or.inr (Or.inr (Or.inr ⟨by decide, yX7_in, rfl, Or.inl kw_13_1⟩)))), List.forall_mem_cons.mpr ⟨Or.inr (Or.inr (Or.inr (Or.inr (Or.inr ⟨by decide, yX7_isWord, rfl, Or.inl kw_16_2⟩)))), List.forall_mem_cons.mpr ⟨Or.inr (Or.inr (Or.inr (Or.inr (Or.inr ⟨by decide, yX7_opens, rfl, Or.inl kw_17_8⟩)))), List.forall_mem_cons.mpr ⟨Or.inr (Or.inr (Or.inr (Or.inr (Or.inr ⟨by decide, yX7_fail, rfl, Or.inl kw_16_14⟩)))), List.forall_mem_cons.mpr ⟨Or.inr (Or.inr (Or.inr (Or.inr (Or.inr ⟨by decide, yX7_isHouse, rfl, Or.inl kw_13_4⟩)))), List.forall_mem_cons.mpr ⟨Or.inr (Or.inr (Or.inr (Or.inr (Or.inr ⟨by decide, yX7_strengthOf, rfl, Or.inl kw_14_0⟩)))), List.forall_mem_cons.mpr ⟨Or.inr (Or.inr (Or.inr (Or.inr (Or.inr ⟨by decide, yX7_isLetter, rfl, Or.inl kw_16_6⟩)))), List.forall_mem_cons.mpr ⟨Or.inr (Or.inr (Or.inr (Or.inr (Or.inr ⟨by decide, yX7_byteAt, rfl, Or.inl kw_15_22⟩)))), List.forall_mem_cons.mpr ⟨Or.inr (Or.inr (Or.inr (Or.inr (Or.inr ⟨by decide, yX7_isSheet, rfl, Or.inl kw_43_4⟩)))), List.forall_mem_cons.mpr ⟨Or.inr (Or.inr (Or.inr (Or.inr (Or.inr ⟨by decide, yX7_name, rfl, Or.inl kw_19_1⟩)))), List.forall_mem_cons.mpr ⟨Or.inr (Or.inr (Or.inr (Or.inr (Or.inr ⟨by decide, yX7_spell, rfl, Or.inl kw_11_21⟩)))), List.forall_mem_cons.mpr ⟨Or.inr (Or.inr (Or.inr (Or.inr (Or.inr ⟨by decide, yX7_knows, rfl, Or.inl kw_23_12⟩)))), List.forall_mem_cons.mpr ⟨Or.inr (Or.inr (Or.inr (Or.inr (Or.inr ⟨by decide, yX7_friends, rfl, Or.inl kw_30_22⟩)))), List.forall_mem_cons.mpr ⟨Or.inr (Or.inr (Or.inr (Or.inr (Or.inr ⟨by decide, yX7_waysAll, rfl, Or.inl kw_35_1⟩)))), List.forall_mem_cons.mpr ⟨Or.inr (Or.inr (Or.inr (Or.inr (Or.inr ⟨by decide, yX7_laysAside, rfl, Or.inl kw_37_10⟩)))), List.forall_mem_cons.mpr ⟨Or.inr (Or.inr (Or.inr (Or.inr (Or.inr ⟨by decide, yX7_laysBack, rfl, Or.inl kw_37_19⟩)))), List.forall_mem_cons.mpr ⟨Or.inr (Or.inr (Or.inr (Or.inr (Or.inr ⟨by decide, yX7_friendsBehind, rfl, Or.inl kw_38_19⟩)))), List.forall_mem_cons.mpr ⟨Or.inr (Or.inr (Or.inr (Or.inr (Or.inr ⟨by decide, yX7_binds, rfl, Or.inl kw_24_14⟩)))), List.forall_mem_cons.mpr ⟨Or.inr (Or.inr (Or.inr (Or.inr (Or.inr ⟨by decide, yX7_feasts, rfl, Or.inl kw_30_18⟩)))), List.forall_mem_cons.mpr ⟨Or.inr (Or.inr (Or.inr (Or.inr (Or.inr ⟨by decide, yX7_says, rfl, Or.inl kw_14_12⟩)))), List.forall_mem_cons.mpr ⟨Or.inr (Or.inr (Or.inr (Or.inr (Or.inr ⟨by decide, yX7_part, rfl, Or.inl kw_16_10⟩)))), List.forall_mem_cons.mpr ⟨Or.inr (Or.inr (Or.inr (Or.inr (Or.inr ⟨by decide, yX7_not1, rfl, Or.inl kw_17_12⟩)))), List.forall_mem_cons.mpr ⟨Or.inr (Or.inr (Or.inr (Or.inr (Or.inr ⟨by decide, yX7_not2, rfl, Or.inl kw_17_16⟩)))), List.forall_mem_cons.mpr ⟨Or.inr (Or.inr (Or.inr (Or.inr (Or.inr ⟨by decide, yX7_not3, rfl, Or.inl kw_17_20⟩)))), List.forall_mem_cons.mpr ⟨Or.inr (Or.inr (Or.inr (Or.inr (Or.inr ⟨by decide, yX7_not4, rfl, Or.inl kw_18_0⟩)))), List.forall_mem_cons.mpr ⟨Or.inr (Or.inr (Or.inr (Or.inr (Or.inr ⟨by decide, yX7_not5, rfl, Or.inl kw_18_4⟩)))), List.forall_mem_cons.mpr ⟨Or.inr (Or.inr (Or.inr (Or.inr (Or.inr ⟨by decide, yX7_atom5, rfl, Or.inl kw_18_17⟩)))), List.forall_mem_cons.mpr ⟨Or.inr (Or.inr (Or.inr (Or.inr (Or.inr ⟨by decide, yX7_atom4, rfl, Or.inl kw_19_13⟩)))), List.forall_mem_cons.mpr ⟨Or.inr (Or.inr (Or.inr (Or.inr (Or.inr ⟨by decide, yX7_atom3, rfl, Or.inl kw_20_9⟩)))), List.forall_mem_cons.mpr ⟨Or.inr (Or.inr (Or.inr (Or.inr (Or.inr ⟨by decide, yX7_atom2, rfl, Or.inl kw_21_5⟩)))), List.forall_mem_cons.mpr ⟨Or.inr (Or.inr (Or.inr (Or.inr (Or.inr ⟨by decide, yX7_atom1, rfl, Or.inl kw_22_1⟩)))), List.forall_mem_cons.mpr ⟨Or.inr (Or.inr (Or.inr (Or.inr (Or.inr ⟨by decide, yX7_lays, rfl, Or.inl kw_23_16⟩)))), List.forall_mem_cons.mpr ⟨Or.inr (Or.inr (Or.inr (Or.inr (Or.inr ⟨by decide, yX7_meetsOf, rfl, Or.inl kw_29_15⟩)))), List.forall_mem_cons.mpr ⟨Or.inr (Or.inr (Or.inr (Or.inr (Or.inr ⟨by decide, yX7_fadesOf, rfl, Or.inl kw_29_19⟩)))), List.forall_mem_cons.mpr ⟨Or.inr (Or.inr (Or.inr (Or.inr (Or.inr ⟨by decide, yX7_longest, rfl, Or.inl kw_35_17⟩)))), List.forall_mem_cons.mpr ⟨Or.inr (Or.inr (Or.inr (Or.inr (Or.inr ⟨by decide, yX7_lives, rfl, Or.inl kw_37_15⟩)))), List.forall_mem_cons.mpr ⟨Or.inr (Or.inr (Or.inr (Or.inr (Or.inr ⟨by decide, yX7_told, rfl, Or.inl kw_13_16⟩)))), List.forall_mem_cons.mpr ⟨Or.inr (Or.inr (Or.inr (Or.inr (Or.inr ⟨by decide, yX7_seatsOf, rfl, Or.inl kw_14_4⟩)))), List.forall_mem_cons.mpr ⟨Or.inr (Or.inr (Or.inr (Or.inr (Or.inr ⟨by decide, yX7_soundsOf, rfl, Or.inl kw_14_8⟩)))), List.forall_mem_cons.mpr ⟨Or.inr (Or.inr (Or.inr (Or.inr (Or.inr ⟨by decide, yX7_apart, rfl, Or.inl kw_14_23⟩)))), List.forall_mem_cons.mpr ⟨Or.inr (Or.inr (Or.inr (Or.inr (Or.inr ⟨by decide, yX7_read, rfl, Or.inl kw_15_2⟩)))), List.forall_mem_cons.mpr ⟨Or.inr (Or.inr (Or.inr (Or.inr (Or.inr ⟨by decide, yX7_both0, rfl, Or.inl kw_16_23⟩)))), List.forall_mem_cons.mpr ⟨Or.inr (Or.inr (Or.inr (Or.inr (Or.inr ⟨by decide, yX7_not0, rfl, Or.inl kw_17_3⟩)))), List.forall_mem_cons.mpr ⟨Or.inr (Or.inr (Or.inr (Or.inr (Or.inr ⟨by decide, yX7_added5, rfl, Or.inl kw_18_8⟩)))), List.forall_mem_cons.mpr ⟨Or.inr (Or.inr (Or.inr (Or.inr (Or.inr ⟨by decide, yX7_term5, rfl, Or.inl kw_18_13⟩)))), List.forall_mem_cons.mpr ⟨Or.inr (Or.inr (Or.inr (Or.inr (Or.inr ⟨by decide, yX7_added4, rfl, Or.inl kw_19_5⟩)))), List.forall_mem_cons.mpr ⟨Or.inr (Or.inr (Or.inr (Or.inr (Or.inr ⟨by decide, yX7_term4, rfl, Or.inl kw_19_9⟩)))), List.forall_mem_cons.mpr ⟨Or.inr (Or.inr (Or.inr (Or.inr (Or.inr ⟨by decide, yX7_both5, rfl, Or.inl kw_19_21⟩)))), List.forall_mem_cons.mpr ⟨Or.inr (Or.inr (Or.inr (Or.inr (Or.inr ⟨by decide, yX7_added3, rfl, Or.inl kw_20_1⟩)))), List.forall_mem_cons.mpr ⟨Or.inr (Or.inr (Or.inr (Or.inr (Or.inr ⟨by decide, yX7_term3, rfl, Or.inl kw_20_5⟩)))), List.forall_mem_cons.mpr ⟨Or.inr (Or.inr (Or.inr (Or.inr (Or.inr ⟨by decide, yX7_both4, rfl, Or.inl kw_20_17⟩)))), List.forall_mem_cons.mpr ⟨Or.inr (Or.inr (Or.inr (Or.inr (Or.inr ⟨by decide, yX7_added2, rfl, Or.inl kw_20_21⟩)))), List.forall_mem_cons.mpr ⟨Or.inr (Or.inr (Or.inr (Or.inr (Or.inr ⟨by decide, yX7_term2, rfl, Or.inl kw_21_1⟩)))), List.forall_mem_cons.mpr ⟨Or.inr (Or.inr (Or.inr (Or.inr (Or.inr ⟨by decide, yX7_both3, rfl, Or.inl kw_21_13⟩)))), List.forall_mem_cons.mpr ⟨Or.inr (Or.inr (Or.inr (Or.inr (Or.inr ⟨by decide, yX7_added1, rfl, Or.inl kw_21_17⟩)))), List.forall_mem_cons.mpr ⟨Or.inr (Or.inr (Or.inr (Or.inr (Or.inr ⟨by decide, yX7_term1, rfl, Or.inl kw_21_21⟩)))), List.forall_mem_cons.mpr ⟨Or.inr (Or.inr (Or.inr (Or.inr (Or.inr ⟨by decide, yX7_both2, rfl, Or.inl kw_22_9⟩)))), List.forall_mem_cons.mpr ⟨Or.inr (Or.inr (Or.inr (Or.inr (Or.inr ⟨by decide, yX7_added0, rfl, Or.inl kw_22_13⟩)))), List.forall_mem_cons.mpr ⟨Or.inr (Or.inr (Or.inr (Or.inr (Or.inr ⟨by decide, yX7_term0, rfl, Or.inl kw_22_17⟩)))), List.forall_mem_cons.mpr ⟨Or.inr (Or.inr (Or.inr (Or.inr (Or.inr ⟨by decide, yX7_atom0, rfl, Or.inl kw_22_21⟩)))), List.forall_mem_cons.mpr ⟨Or.inr (Or.inr (Or.inr (Or.inr (Or.inr ⟨by decide, yX7_both1, rfl, Or.inl kw_23_5⟩)))), List.forall_mem_cons.mpr ⟨Or.inr (Or.inr (Or.inr (Or.inr (Or.inr ⟨by decide, yX7_within, rfl, Or.inl kw_23_9⟩)))), List.forall_mem_cons.mpr ⟨Or.inr (Or.inr (Or.inr (Or.inr (Or.inr ⟨by decide, yX7_areTwo, rfl, Or.inl kw_25_11⟩)))), List.forall_mem_cons.mpr ⟨Or.inr (Or.inr (Or.inr (Or.inr (Or.inr ⟨by decide, yX7_fades, rfl, Or.inl kw_31_16⟩)))), List.forall_mem_cons.mpr ⟨Or.inr (Or.inr (Or.inr (Or.inr (Or.inr ⟨by decide, yX7_tellsOf, rfl, Or.inl kw_34_21⟩)))), List.forall_mem_cons.mpr ⟨Or.inr (Or.inr (Or.inr (Or.inr (Or.inr ⟨by decide, yX7_companies, rfl, Or.inl kw_35_5⟩)))), List.forall_mem_cons.mpr ⟨Or.inr (Or.inr (Or.inr (Or.inr (Or.inr ⟨by decide, yX7_clears, rfl, Or.inl kw_39_20⟩)))), List.forall_mem_cons.mpr ⟨Or.inr (Or.inr (Or.inr (Or.inr (Or.inr ⟨by decide, yX7_sitsAgain, rfl, Or.inl kw_40_0⟩)))), List.forall_mem_cons.mpr ⟨Or.inr (Or.inr (Or.inr (Or.inr (Or.inr ⟨by decide, yX7_unlike, rfl, Or.inl kw_43_7⟩)))), List.forall_mem_cons.mpr ⟨Or.inr (Or.inr (Or.inr (Or.inr (Or.inr ⟨by decide, yX7_friendsBy, rfl, Or.inl kw_45_0⟩)))), List.forall_mem_cons.mpr ⟨Or.inl ⟨rfl, kw_10_20⟩, List.forall_mem_cons.mpr ⟨Or.inr (Or.inr (Or.inr (Or.inr (Or.inr ⟨by decide, yX7_isValue, rfl, Or.inl kw_13_9⟩)))), List.forall_mem_cons.mpr ⟨Or.inr (Or.inr (Or.inr (Or.inr (Or.inr ⟨by decide, yX7_either0, rfl, Or.inl kw_16_19⟩)))), List.forall_mem_cons.mpr ⟨Or.inr (Or.inr (Or.inr (Or.inr (Or.inr ⟨by decide, yX7_either5, rfl, Or.inl kw_19_17⟩)))), List.forall_mem_cons.mpr ⟨Or.inr (Or.inr (Or.inr (Or.inr (Or.inr ⟨by decide, yX7_either4, rfl, Or.inl kw_20_13⟩)))), List.forall_mem_cons.mpr ⟨Or.inr (Or.inr (Or.inr (Or.inr (Or.inr ⟨by decide, yX7_either3, rfl, Or.inl kw_21_9⟩)))), List.forall_mem_cons.mpr ⟨Or.inr (Or.inr (Or.inr (Or.inr (Or.inr ⟨by decide, yX7_either2, rfl, Or.inl kw_22_5⟩)))), List.forall_mem_cons.mpr ⟨Or.inr (Or.inr (Or.inr (Or.inr (Or.inr ⟨by decide, yX7_either1, rfl, Or.inl kw_23_1⟩)))), List.forall_mem_cons.mpr ⟨Or.inr (Or.inr (Or.inr (Or.inr (Or.inr ⟨by decide, yX7_quietest, rfl, Or.inl kw_34_17⟩)))), List.forall_mem_cons.mpr ⟨Or.inr (Or.inr (Or.inr (Or.inr (Or.inr ⟨by decide, yX7_largest, rfl, Or.inl kw_35_9⟩)))), List.forall_mem_cons.mpr ⟨Or.inr (Or.inr (Or.inr (Or.inr (Or.inr ⟨by decide, yX7_strengthAll, rfl, Or.inl kw_35_13⟩)))), List.forall_mem_cons.mpr ⟨Or.inr (Or.inr (Or.inr (Or.inr (Or.inr ⟨by decide, yX7_limitsBy, rfl, Or.inl kw_43_11⟩)))), List.forall_mem_cons.mpr ⟨Or.inr (Or.inr (Or.inr (Or.inr (Or.inr ⟨by decide, yX7_sheet, rfl, Or.inl kw_44_7⟩)))), List.forall_mem_cons.mpr ⟨Or.inr (Or.inr (Or.inr (Or.inr (Or.inr ⟨by decide, yX7_house, rfl, Or.inl kw_48_18⟩)))), List.forall_mem_cons.mpr ⟨Or.inr (Or.inr (Or.inr (Or.inr (Or.inr ⟨by decide, yX7_over, rfl, Or.inl kw_49_7⟩)))), fun _ h => absurd h List.not_mem_nil⟩⟩⟩⟩⟩⟩⟩⟩⟩⟩⟩⟩⟩⟩⟩⟩⟩⟩⟩⟩⟩⟩⟩⟩⟩⟩⟩⟩⟩⟩⟩⟩⟩⟩⟩⟩⟩⟩⟩⟩⟩⟩⟩⟩⟩⟩⟩⟩⟩⟩⟩⟩⟩⟩⟩⟩⟩⟩⟩⟩⟩⟩⟩⟩⟩⟩⟩⟩⟩⟩⟩⟩⟩⟩⟩⟩⟩⟩⟩⟩⟩⟩⟩⟩⟩⟩⟩
theorem xml_ok10 : ∀ e ∈ xmlL10, xML 10 e := List.forall_mem_cons.mpr ⟨Or.inr (Or.inr (Or.inr (Or.inr (Or.inr ⟨by decide, yJ0_coder_7d493, rfl, Or.inl kw_3_22⟩)))), List.forall_mem_cons.mpr ⟨Or.inr (Or.inr (Or.inr (Or.inr (Or.inr ⟨by decide, yJ0_isLatin1_aae02, rfl, Or.inl kw_4_8⟩)))), List.forall_mem_cons.mpr ⟨Or.inr (Or.inr (Or.inr (Or.inr (Or.inr ⟨by decide, yJ1_charAt_3b067, rfl, Or.inl kw_4_12⟩)))), List.forall_mem_cons.mpr ⟨Or.inr (Or.inr (Or.inr (Or.inr (Or.inr ⟨by decide, yJ3_checkIndex_8e157, rfl, Or.inl kw_4_20⟩)))), List.forall_mem_cons.mpr ⟨Or.inr (Or.inr (Or.inr (Or.inr (Or.inr ⟨by decide, yJ2_charAt_3b067, rfl, Or.inl kw_5_0⟩)))), fun _ h => absurd h List.not_mem_nil⟩⟩⟩⟩⟩
theorem xml_ok11 : ∀ e ∈ xmlL11, xML 11 e := List.forall_mem_cons.mpr ⟨Or.inr (Or.inr (Or.inr (Or.inr (Or.inr ⟨by decide, yJ0_checkIndex_df160, rfl, Or.inl kw_4_16⟩)))), fun _ h => absurd h List.not_mem_nil⟩
theorem xml_ok12 : ∀ e ∈ xmlL12, xML 12 e := List.forall_mem_cons.mpr ⟨Or.inr (Or.inr (Or.inr (Or.inr (Or.inr ⟨by decide, yJ2_length_9d52b, rfl, Or.inl kw_5_7⟩)))), List.forall_mem_cons.mpr ⟨Or.inr (Or.inr (Or.inr (Or.inr (Or.inr ⟨by decide, yJ2_checkIndex_2214a, rfl, Or.inl kw_5_4⟩)))), List.forall_mem_cons.mpr ⟨Or.inr (Or.inr (Or.inr (Or.inr (Or.inr ⟨by decide, yJ0_checkIndex_df160, rfl, Or.inl kw_5_10⟩)))), List.forall_mem_cons.mpr ⟨Or.inr (Or.inr (Or.inr (Or.inr (Or.inr ⟨by decide, yJ2_getChar_3b067, rfl, Or.inl kw_5_11⟩)))), fun _ h => absurd h List.not_mem_nil⟩⟩⟩⟩
theorem xml_all : ∀ p ∈ xmlA, ∀ e ∈ p.2, xML p.1 e := List.forall_mem_cons.mpr ⟨xml_ok7, List.forall_mem_cons.mpr ⟨xml_ok6, List.forall_mem_cons.mpr ⟨xml_ok3, List.forall_mem_cons.mpr ⟨xml_ok4, List.forall_mem_cons.mpr ⟨xml_ok1, List.forall_mem_cons.mpr ⟨xml_ok5, List.forall_mem_cons.mpr ⟨xml_ok0, List.forall_mem_cons.mpr ⟨xml_ok2, List.forall_mem_cons.mpr ⟨xml_ok10, List.forall_mem_cons.mpr ⟨xml_ok11, List.forall_mem_cons.mpr ⟨xml_ok12, fun _ h => absurd h List.not_mem_nil⟩⟩⟩⟩⟩⟩⟩⟩⟩⟩⟩
theorem xml_ok {own idx k : Nat} (h : xml own idx = some k) : xML own (idx, k) := by
  obtain ⟨l, h1, h2⟩ := xas2_mem h
  exact xml_all _ h1 _ h2
set_option maxRecDepth 100000 in
theorem xws_good : wsL_law.all goodWord = true := by decide +kernel
theorem xo0 : Cond.instanceMethod objectInit ∈ wsL_law := kw_1_10
theorem xo1 : Cond.code objectInit ⟨#[0xb1]⟩ 1 none ∈ wsL_law := kw_1_11
theorem xo2 : Cond.native arraycopyName ∈ wsL_law := kw_36_18
theorem xo3 : Cond.static arraycopyName ∈ wsL_law := kw_36_19
theorem xo4 : Cond.initialized "java/lang/System" ∈ wsL_law := kw_36_20
theorem xo5 : Cond.static Lib.Math.max.name ∈ wsL_law := kw_27_6
theorem xo6 : Cond.static Lib.Math.min.name ∈ wsL_law := kw_27_3
theorem xo7 : Cond.static Lib.Math.abs.name ∈ wsL_law := kw_26_18
theorem xo8 : Cond.initialized "java/lang/Math" ∈ wsL_law := kw_26_19
theorem xo9 : Cond.arrayClass .int ∈ wsL_law := kw_2_18
theorem xo10 : Cond.arrayClass .boolean ∈ wsL_law := kw_11_15
theorem xo11 : Cond.code Lib.Math.max.name Lib.Math.max.code 2 (some .int) ∈ wsL_law := kw_27_7
theorem xo12 : Cond.code Lib.Math.min.name Lib.Math.min.code 2 (some .int) ∈ wsL_law := kw_27_4
theorem xo13 : Cond.code Lib.Math.abs.name Lib.Math.abs.code 1 (some .int) ∈ wsL_law := kw_26_20
end
section
/-! what the engine's values and cells are, on the machine -/
def xv (ad : Nat → Nat) (ρ : Nat → Int32) (fm : Value) : Value → Value
  | .ref k => .ref (ad k)
  | .retAddr j => if j % 2 = 0 then .int (ρ (j % 32 / 2) + Int32.ofNat (j / 32)) else .long (ρ (j % 32 / 2) + Int32.ofNat (j / 32)).toInt64
  | .float _ => fm
  | v => v
def xokR (ρ : Nat → Int32) (rg : xRG) : Prop := ∀ (k : Nat) (q : Int × Int), rg[k]? = some q → q.1 ≤ (ρ k).toInt ∧ (ρ k).toInt ≤ q.2
def xokF (fm : Value) : Prop := fm = .null ∨ ∃ a, fm = .ref a
section XVL
variable {ad : Nat → Nat} {ρ : Nat → Int32} {fm : Value} {rg : xRG}
theorem xv_I {v : Value} (h : xisI v = true) : ∃ x, xv ad ρ fm v = .int x := by
  cases v with
  | int x => exact ⟨x, rfl⟩
  | retAddr j =>
    have h' : j % 2 = 0 := by simpa [xisI] using h
    exact ⟨_, by rw [xv, if_pos h']⟩
  | _ => simp [xisI] at h
theorem xv_L {v : Value} (h : xisL v = true) : ∃ x, xv ad ρ fm v = .long x := by
  cases v with
  | long x => exact ⟨x, rfl⟩
  | retAddr j =>
    have h' : j % 2 = 1 := by simpa [xisL] using h
    exact ⟨_, by rw [xv, if_neg (by omega)]⟩
  | _ => simp [xisL] at h
theorem xv_R (hf : xokF fm) {v : Value} (h : xisR v = true) : xv ad ρ fm v = .null ∨ ∃ a, xv ad ρ fm v = .ref a := by
  cases v with
  | ref k => exact Or.inr ⟨_, rfl⟩
  | null => exact Or.inl rfl
  | float _ => exact hf
  | _ => simp [xisR] at h
theorem xv_cat (hf : xokF fm) (v : Value) : (xv ad ρ fm v).category = if xc2 v = true then 2 else 1 := by
  cases v with
  | retAddr j =>
    by_cases h : j % 2 = 0
    · rw [xv, if_pos h, if_neg (by simp [xc2]; omega)]; rfl
    · rw [xv, if_neg h, if_pos (by simp [xc2]; omega)]; rfl
  | float _ =>
    rcases hf with h | ⟨a, h⟩
    · show fm.category = _; rw [h]; rfl
    · show fm.category = _; rw [h]; rfl
  | _ => rfl
theorem xv_cat_le (hf : xokF fm) (v : Value) : (xv ad ρ fm v).category ≤ 2 := by
  rw [xv_cat hf]; split <;> omega
theorem xcat_sum (hf : xokF fm) : ∀ (r : List Value), r.length ≤ 4 → ((r.map (xv ad ρ fm)).map fun v => v.category).sum ≤ 8 := by
  have h : ∀ r : List Value, ((r.map (xv ad ρ fm)).map fun v => v.category).sum ≤ 2 * r.length := by
    intro r
    induction r with
    | nil => simp
    | cons a r ih =>
      have := xv_cat_le (ad := ad) (ρ := ρ) hf a
      simp only [List.map_cons, List.sum_cons, List.length_cons]
      simp only [List.map_map] at ih ⊢
      omega
  intro r hr
  have := h r
  omega
theorem xci_ok (hR : xokR ρ rg) {v : Value} {x : Int32} (h : xci rg v = some x) : xv ad ρ fm v = .int x := by
  cases v with
  | int y => simp [xci] at h; rw [h]; rfl
  | retAddr j =>
    unfold xci at h
    simp only [xnth_eq] at h
    split at h
    · next h0 =>
      split at h
      · next lo hi hq =>
        split at h
        · next he =>
          cases h
          have := hR _ _ hq
          have e : ρ (j % 32 / 2) = Int32.ofInt lo := by
            have h1 : (ρ (j % 32 / 2)).toInt = lo := by simp only at this; omega
            rw [← h1, Int32.ofInt_toInt]
          rw [xv, if_pos h0, e]
        · cases h
      · cases h
    · cases h
  | _ => simp [xci] at h
theorem xcl_ok {v : Value} {x : Int64} (h : xcl v = some x) : xv ad ρ fm v = .long x := by
  cases v with
  | long y => simp [xcl] at h; rw [h]; rfl
  | _ => simp [xcl] at h
theorem xiv_ok (hR : xokR ρ rg) {v : Value} {q : Int × Int} (h : xiv rg v = some q) : ∃ x : Int32, xv ad ρ fm v = .int x ∧ q.1 ≤ x.toInt ∧ x.toInt ≤ q.2 := by
  cases v with
  | int y => simp [xiv] at h; rw [← h]; exact ⟨y, rfl, Int.le_refl _, Int.le_refl _⟩
  | retAddr j =>
    unfold xiv at h
    simp only [xnth_eq] at h
    split at h
    · next h0 =>
      split at h
      · next h1 =>
        refine ⟨_, by rw [xv, if_pos h1], ?_⟩
        have e : j / 32 = 0 := by omega
        have e2 : j % 32 = j := by omega
        have := hR _ _ h
        rw [e, e2]
        simpa using this
      · cases h
    · cases h
  | _ => simp [xiv] at h
theorem xlv_ok (hR : xokR ρ rg) {v : Value} {q : Int × Int} (h : xlv rg v = some q) : ∃ x : Int64, xv ad ρ fm v = .long x ∧ q.1 ≤ x.toInt ∧ x.toInt ≤ q.2 := by
  cases v with
  | long y => simp [xlv] at h; rw [← h]; exact ⟨y, rfl, Int.le_refl _, Int.le_refl _⟩
  | retAddr j =>
    unfold xlv at h
    simp only [xnth_eq] at h
    split at h
    · next h0 =>
      split at h
      · next h1 =>
        refine ⟨_, by rw [xv, if_neg (by omega)], ?_⟩
        have e : j / 32 = 0 := by omega
        have e2 : j % 32 = j := by omega
        have := hR _ _ h
        rw [e, e2]
        simpa using this
      · cases h
    · cases h
  | _ => simp [xlv] at h
theorem xokR_set {k : Nat} {lo hi : Int} (hR : xokR ρ rg) (h : lo ≤ (ρ k).toInt ∧ (ρ k).toInt ≤ hi) : xokR ρ (rg.set k (lo, hi)) := by
  intro i q hq
  by_cases e : i = k
  · subst e
    by_cases hl : i < rg.length
    · rw [List.getElem?_set_self hl] at hq
      cases hq
      exact h
    · rw [List.getElem?_eq_none (by simpa using hl)] at hq
      cases hq
  · rw [List.getElem?_set_ne (Ne.symm e)] at hq
    exact hR i q hq
theorem xsp_ok (hR : xokR ρ rg) {v : Value} {t : Int} {l : List xRG} (h : xsp rg v t = some l) : ∃ rg' ∈ l, xokR ρ rg' := by
  cases v with
  | retAddr j =>
    unfold xsp at h
    simp only [xnth_eq] at h
    split at h
    · split at h
      · next lo hi hq =>
        split at h
        · split at h
          · cases h
            have := hR _ _ hq
            simp only at this
            by_cases hc : (ρ (j / 2)).toInt < t
            · exact ⟨_, List.mem_cons_self, xokR_set hR ⟨this.1, by omega⟩⟩
            · exact ⟨_, List.mem_cons_of_mem _ List.mem_cons_self, xokR_set hR ⟨by omega, this.2⟩⟩
          · cases h
        · cases h
      · cases h
    · cases h
  | _ => simp [xsp] at h
theorem xcs_ok (hR : xokR ρ rg) {v : Value} {l : List xRG} (h : xcs rg v = some l) : ∃ rg' ∈ l, xokR ρ rg' := by
  cases v with
  | retAddr j =>
    unfold xcs at h
    simp only [xnth_eq] at h
    split at h
    · next lo hi hq =>
      split at h
      · exact xsp_ok hR h
      · cases h
    · cases h
  | _ => simp [xcs] at h
theorem xelse_ok {α : Type} {a b : Option α} {x : α} (h : xelse a b = some x) : a = some x ∨ b = some x := by
  cases a with
  | some y => exact Or.inl h
  | none => exact Or.inr h
/-- a fork's ranges: whatever the numbers are, one of them holds -/
def xcov (ρ : Nat → Int32) (o : Option (List xRG)) : Prop := ∀ l, o = some l → ∃ rg' ∈ l, xokR ρ rg'
theorem xcov_sp (hR : xokR ρ rg) (v : Value) (t : Int) : xcov ρ (xsp rg v t) := fun _ h => xsp_ok hR h
theorem xcov_cs (hR : xokR ρ rg) (v : Value) : xcov ρ (xcs rg v) := fun _ h => xcs_ok hR h
theorem xcov_else {a b : Option (List xRG)} (ha : xcov ρ a) (hb : xcov ρ b) : xcov ρ (xelse a b) := fun l h => (xelse_ok h).elim (ha l) (hb l)
theorem xcov_none : xcov ρ none := fun _ h => by cases h
end XVL
theorem xlt_ok {a b : Int × Int} {r : Bool} {x y : Int} (h : xlt a b = some r) (ha : a.1 ≤ x ∧ x ≤ a.2) (hb : b.1 ≤ y ∧ y ≤ b.2) : (r = true ↔ x < y) := by
  unfold xlt at h
  split at h
  · cases h; simp; omega
  · split at h
    · cases h; simp; omega
    · cases h
theorem xeq_ok {a b : Int × Int} {r : Bool} {x y : Int} (h : xeq a b = some r) (ha : a.1 ≤ x ∧ x ≤ a.2) (hb : b.1 ≤ y ∧ y ≤ b.2) : (r = true ↔ x = y) := by
  unfold xeq at h
  split at h
  · cases h; simp; omega
  · split at h
    · cases h; simp; omega
    · split at h
      · split at h
        · cases h; simp; omega
        · cases h
      · cases h
theorem xnot_ok {o : Option Bool} {r : Bool} (h : xnot o = some r) : o = some (!r) := by
  cases o with
  | none => cases h
  | some b => cases h; simp
def xcP (c : ClassFile.Cond) (x y : Int32) : Prop := match c with
  | .lt => x < y
  | .ge => y ≤ x
  | .gt => y < x
  | .le => x ≤ y
  | .eq => x = y
  | .ne => ¬ x = y
theorem xcmp_ok {c : ClassFile.Cond} {a b : Int × Int} {r : Bool} {x y : Int32} (h : xcmp c a b = some r) (ha : a.1 ≤ x.toInt ∧ x.toInt ≤ a.2) (hb : b.1 ≤ y.toInt ∧ y.toInt ≤ b.2) : (r = true ↔ xcP c x y) := by
  have e : x = y ↔ x.toInt = y.toInt := ⟨fun h => by rw [h], fun h => Int32.toInt_inj.mp h⟩
  cases c with
  | lt => exact (xlt_ok h ha hb).trans Int32.lt_iff_toInt_lt.symm
  | gt => exact (xlt_ok h hb ha).trans Int32.lt_iff_toInt_lt.symm
  | eq => exact (xeq_ok h ha hb).trans e.symm
  | ge =>
    have := xlt_ok (xnot_ok h) ha hb
    show _ ↔ y ≤ x
    rw [Int32.le_iff_toInt_le]
    cases r <;> simp at this ⊢ <;> omega
  | le =>
    have := xlt_ok (xnot_ok h) hb ha
    show _ ↔ x ≤ y
    rw [Int32.le_iff_toInt_le]
    cases r <;> simp at this ⊢ <;> omega
  | ne =>
    have := xeq_ok (xnot_ok h) ha hb
    show _ ↔ ¬ x = y
    rw [e]
    cases r <;> simp at this ⊢ <;> omega
/-! the locals -/
def xLV (V : Value → Value) (ls : Array Slot) (mx : Nat) (lo : List (Option Value)) : Prop := ls.size = mx ∧ lv_wf ls ∧ ∀ (i : Nat) (v : Value), lo[i]? = some (some v) → ls[i]? = some (.val (V v))
def xlist (V : Value → Value) (lo : List (Option Value)) : List (Nat × Value) := (List.range lo.length).filterMap fun i => match lo[i]? with
  | some (some v) => some (i, V v)
  | _ => none
theorem xlist_mem {V : Value → Value} {lo : List (Option Value)} {i : Nat} {v : Value} (h : lo[i]? = some (some v)) : (i, V v) ∈ xlist V lo := by
  unfold xlist
  refine List.mem_filterMap.mpr ⟨i, List.mem_range.mpr (List.getElem?_eq_some_iff.mp h).1, ?_⟩
  rw [h]
theorem xLV.has {V : Value → Value} {ls : Array Slot} {mx : Nat} {lo : List (Option Value)} (h : xLV V ls mx lo) : lv_has ls mx (xlist V lo) := by
  refine ⟨h.1, h.2.1, fun q hq => ?_⟩
  obtain ⟨i, hi, e⟩ := List.mem_filterMap.mp hq
  revert e
  cases hl : lo[i]? with
  | none => intro e; cases e
  | some o =>
    cases o with
    | none => intro e; cases e
    | some v => intro e; cases e; exact h.2.2 i v hl
def xs1 (lo : List (Option Value)) (i : Nat) (v : Value) : List (Option Value) := match i with
  | 0 => lo.set 0 (some v)
  | k + 1 => (match (lo.set (k + 1) (some v))[k]? with
    | some (some w) => if xc2 w then (lo.set (k + 1) (some v)).set k none else lo.set (k + 1) (some v)
    | _ => lo.set (k + 1) (some v))
theorem xst1_eq {β : Type} (lo : List (Option Value)) (i : Nat) (v : Value) (K : List (Option Value) → β) : xst1 lo i v K = K (xs1 lo i v) := by
  unfold xst1 xs1
  rw [xset_eq]
  cases i with
  | zero => rfl
  | succ k =>
    simp only [xnth_eq]
    cases h : (lo.set (k + 1) (some v))[k]? with
    | none => rfl
    | some o =>
      cases o with
      | none => rfl
      | some w =>
        simp only
        split
        · rw [xset_eq]
        · rfl
theorem xs1_get {lo : List (Option Value)} {i j : Nat} {v w : Value} (h : (xs1 lo i v)[j]? = some (some w)) : (j = i ∧ w = v) ∨ (j ≠ i ∧ lo[j]? = some (some w) ∧ ¬ (j + 1 = i ∧ xc2 w = true)) := by
  have key : ∀ {n : Nat}, (lo.set n (some v))[j]? = some (some w) → (j = n ∧ w = v) ∨ (j ≠ n ∧ lo[j]? = some (some w)) := by
    intro n hn
    by_cases e : j = n
    · subst e
      by_cases hl : j < lo.length
      · rw [List.getElem?_set_self hl] at hn
        cases hn
        exact Or.inl ⟨rfl, rfl⟩
      · rw [List.getElem?_eq_none (by simpa using hl)] at hn
        cases hn
    · rw [List.getElem?_set_ne (Ne.symm e)] at hn
      exact Or.inr ⟨e, hn⟩
  unfold xs1 at h
  cases i with
  | zero =>
    rcases key h with q | q
    · exact Or.inl q
    · exact Or.inr ⟨q.1, q.2, fun z => by omega⟩
  | succ k =>
    simp only at h
    cases hk : (lo.set (k + 1) (some v))[k]? with
    | none =>
      rw [hk] at h
      rcases key h with q | q
      · exact Or.inl q
      · refine Or.inr ⟨q.1, q.2, fun z => ?_⟩
        have : j = k := by omega
        subst this
        rw [hk] at h
        cases h
    | some o =>
      rw [hk] at h
      cases o with
      | none =>
        rcases key h with q | q
        · exact Or.inl q
        · refine Or.inr ⟨q.1, q.2, fun z => ?_⟩
          have : j = k := by omega
          subst this
          rw [hk] at h
          cases h
      | some u =>
        simp only at h
        split at h
        · next hu =>
          by_cases e : j = k
          · subst e
            have hl : j < (lo.set (j + 1) (some v)).length := (List.getElem?_eq_some_iff.mp hk).1
            rw [List.getElem?_set_self hl] at h
            cases h
          · rw [List.getElem?_set_ne (Ne.symm e)] at h
            rcases key h with q | q
            · exact Or.inl q
            · exact Or.inr ⟨q.1, q.2, fun z => by omega⟩
        · next hu =>
          rcases key h with q | q
          · exact Or.inl q
          · refine Or.inr ⟨q.1, q.2, fun z => ?_⟩
            have : j = k := by omega
            subst this
            rw [hk] at h
            cases h
            exact hu z.2
theorem xLV_st1 {ad : Nat → Nat} {ρ : Nat → Int32} {fm : Value} (hf : xokF fm) {ls : Array Slot} {mx i : Nat} {lo : List (Option Value)} {v : Value} (h : lv_has ls mx ((i, xv ad ρ fm v) :: (xlist (xv ad ρ fm) lo).filter (fun q => !(q.1 == i) && !(q.1 + 1 == i && q.2.category == 2)))) : xLV (xv ad ρ fm) ls mx (xs1 lo i v) := by
  refine ⟨h.1, h.2.1, fun j w hj => ?_⟩
  rcases xs1_get hj with ⟨rfl, rfl⟩ | ⟨h1, h2, h3⟩
  · exact h.2.2 _ List.mem_cons_self
  · refine h.2.2 (j, xv ad ρ fm w) (List.mem_cons_of_mem _ (List.mem_filter.mpr ⟨xlist_mem h2, ?_⟩))
    have hc := xv_cat (ad := ad) (ρ := ρ) hf w
    have n1 : (j == i) = false := by simpa using h1
    by_cases e : j + 1 = i
    · have n2 : ¬ xc2 w = true := fun z => h3 ⟨e, z⟩
      rw [if_neg n2] at hc
      simp [n1, hc]
    · simp [n1, e]
theorem xst2_eq {β : Type} (lo : List (Option Value)) (i : Nat) (v : Value) (K : List (Option Value) → β) : xst2 lo i v K = K ((xs1 lo i v).set (i + 1) none) := by
  unfold xst2
  rw [xst1_eq, xset_eq]
theorem xLV_st2 {ad : Nat → Nat} {ρ : Nat → Int32} {fm : Value} (hf : xokF fm) {ls : Array Slot} {mx i : Nat} {lo : List (Option Value)} {v : Value} (h : lv_has ls mx ((i, xv ad ρ fm v) :: (xlist (xv ad ρ fm) lo).filter (fun q => !(q.1 == i) && (!(q.1 == i + 1) && !(q.1 + 1 == i && q.2.category == 2))))) : xLV (xv ad ρ fm) ls mx ((xs1 lo i v).set (i + 1) none) := by
  refine ⟨h.1, h.2.1, fun j w hj => ?_⟩
  by_cases e1 : j = i + 1
  · subst e1
    by_cases hl : i + 1 < (xs1 lo i v).length
    · rw [List.getElem?_set_self hl] at hj
      cases hj
    · rw [List.getElem?_eq_none (by simpa using hl)] at hj
      cases hj
  · rw [List.getElem?_set_ne (Ne.symm e1)] at hj
    rcases xs1_get hj with ⟨rfl, rfl⟩ | ⟨h1, h2, h3⟩
    · exact h.2.2 _ List.mem_cons_self
    · refine h.2.2 (j, xv ad ρ fm w) (List.mem_cons_of_mem _ (List.mem_filter.mpr ⟨xlist_mem h2, ?_⟩))
      have hc := xv_cat (ad := ad) (ρ := ρ) hf w
      have n1 : (j == i) = false := by simpa using h1
      have n3 : (j == i + 1) = false := by simpa using e1
      by_cases e : j + 1 = i
      · have n2 : ¬ xc2 w = true := fun z => h3 ⟨e, z⟩
        rw [if_neg n2] at hc
        simp [n1, n3, hc]
      · simp [n1, n3, e]
/-! the cells -/
def xI : Value → Int32
  | .int x => x
  | _ => 0
def xR : Value → Option Nat
  | .ref a => some a
  | _ => none
def xencC (cA : Nat → ClassId) (V : Value → Value) (q : xCel) : va_E :=
  if q.1 < 100 then .inr (q.1, q.2.map V)
  else if q.1 < 102 then .inl (cA q.1, q.2.length, .inl (fun j => xI (V (q.2.getD j .null))))
  else .inl (cA q.1, q.2.length, .inr (.inr (.inr (.inr (fun j => xR (V (q.2.getD j .null)))))))
def xenc (cA : Nat → ClassId) (V : Value → Value) (ad : Nat → Nat) (C : List xCel) : va_W := C.mapIdx fun k q => (ad k, xencC cA V q)
theorem xenc_get {cA : Nat → ClassId} {V : Value → Value} {ad : Nat → Nat} {C : List xCel} {k : Nat} {q : xCel} (h : C[k]? = some q) : (xenc cA V ad C)[k]? = some (ad k, xencC cA V q) := by
  unfold xenc
  rw [List.getElem?_mapIdx, h]
  rfl
theorem xenc_of {cA : Nat → ClassId} {V : Value → Value} {ad : Nat → Nat} {C : List xCel} {k : Nat} {z : Nat × va_E} (h : (xenc cA V ad C)[k]? = some z) : ∃ q, C[k]? = some q ∧ z = (ad k, xencC cA V q) := by
  unfold xenc at h
  rw [List.getElem?_mapIdx] at h
  cases hk : C[k]? with
  | none => rw [hk] at h; cases h
  | some q => rw [hk] at h; cases h; exact ⟨q, rfl, rfl⟩
theorem xenc_set {cA : Nat → ClassId} {V : Value → Value} {ad : Nat → Nat} {C : List xCel} {k : Nat} {q : xCel} : xenc cA V ad (C.set k q) = (xenc cA V ad C).set k (ad k, xencC cA V q) := by
  apply List.ext_getElem?
  intro i
  unfold xenc
  by_cases e : k = i
  · subst e
    by_cases hl : k < C.length
    · rw [List.getElem?_mapIdx, List.getElem?_set_self hl, List.getElem?_set_self (by simpa using hl)]
      rfl
    · rw [List.getElem?_eq_none (by simpa using hl), List.getElem?_eq_none (by simpa using hl)]
  · rw [List.getElem?_mapIdx, List.getElem?_set_ne e, List.getElem?_set_ne e, List.getElem?_mapIdx]
theorem xenc_push {cA : Nat → ClassId} {V : Value → Value} {ad : Nat → Nat} {C : List xCel} {q : xCel} : xenc cA V ad (C ++ [q]) = xenc cA V ad C ++ [(ad C.length, xencC cA V q)] := by
  unfold xenc
  rw [List.mapIdx_concat]
end
section
/-! each instruction of the engine is the machine's -/
def xtyE (k : Nat) : FieldType := match k with
  | 0 => .int
  | 1 => .boolean
  | 2 => .object RX5
  | 3 => .object RX2
  | _ => .array .int
def xtys (cA : Nat → ClassId) : List (ClassId × FieldType) := [(cA 100, .int), (cA 101, .boolean), (cA 102, .object RX5), (cA 103, .object RX2), (cA 104, .array .int)]
/-- what lies outside: statics, tables, texts, and what the tables say of rows and of nest mates -/
def xExt (ad : Nat → Nat) (fm : Value) (A : Nat → Prop) (U : State) (H : Heap) : Prop :=
  (∀ q ∈ xStat, va_Z q.1 q.2.1 q.2.2.1 (xv ad (fun _ => 0) fm q.2.2.2) A U H) ∧
  (∀ (j : Nat) (l : List Int32), xTab[j]? = some l → va_T .int (ad (xB + j)) l.length (fun n => .int (l.getD n 0)) A U H) ∧
  vk_S 13 (xByt.map List.length) xByt (fun i => ad (xB + 10 + i)) (fun i => ad (xB + 30 + i)) A U H ∧
  (∀ (i : Nat) (q : Nat × Nat × String), xStr[i]? = some q → vk_R (xcn q.1) q.2.1 q.2.2 (ad (xB + 10 + i)) U) ∧
  (va_AO RX5 U ∧ va_AO RX2 U ∧ va_Nw (.arrayOver (.array .int)) U) ∧
  ∀ q ∈ xNest, va_Nw (.methodLinkNest (xcn q.1) q.2.1 q.2.2 "StreetTillTen") U
def xEnv (p : Program) (l : Launch) (e : Env) (R : Room) (s : State) (m : MethodId) (args : Array Value) (below : List Frame) (meth : Method) (c : Code) (D : va_G) (cA : Nat → ClassId) (ad : Nat → Nat) (fm : Value) (A : Nat → Prop) (n0 : Nat) (mi : xMI) : Prop :=
  p.tables.exec = Jvm.exec ∧ c.code = mi.2.1 ∧ c.maxLocals = mi.2.2.2.2.1 ∧ s.vm.findClass (xcn mi.2.2.1) = some m.cls ∧ (∀ w ∈ wsL_law, w.before args s = true) ∧ va_K D vwCl (xtys cA) s ∧ xExt ad fm A s s.heap ∧
  meth.sig.returnType = xrt mi.2.2.2.2.2.1 ∧ meth.locks = false ∧ (mi.2.2.2.2.2.2.1 = 2 → meth.name = "<init>") ∧ (1 ≤ R.frames ∧ 40 ≤ R.locals) ∧ R.cells = mi.2.2.2.2.2.2.2.1 ∧ R.slots = mi.2.2.2.2.2.2.2.2.1 ∧ xokF fm ∧
  (∀ q, s.heap.size ≤ q → A q) ∧ (∀ q, A q → s.heap.size ≤ q ∨ ∃ k, k < n0 ∧ q = ad k) ∧ ∀ k, n0 ≤ k → k < xB → ad k = s.heap.size + (k - n0)
def xRn (p : Program) (l : Launch) (e : Env) (R : Room) (s : State) (m : MethodId) (args : Array Value) (below : List Frame) (meth : Method) (c : Code) (D : va_G) (cA : Nat → ClassId) (ad : Nat → Nat) (ρ : Nat → Int32) (fm : Value) (A : Nat → Prop) (mx n0 mc ms : Nat) (Q : State → Prop) (f : xFr) : Prop :=
  ∀ (H : Heap) (locs : List Loc) (ls : Array Slot), xokR ρ f.2.2.2.2.1 → xLV (xv ad ρ fm) ls mx f.2.1 → va_P D vwCl (xenc cA (xv ad ρ fm) ad f.2.2.2.1) H → va_D A (xenc cA (xv ad ρ fm) ad f.2.2.2.1) → va_S A s.heap H locs → f.2.2.2.1.length = n0 + f.2.2.2.2.2.1 ∧ f.2.2.2.2.2.1 ≤ mc ∧ f.2.2.2.2.2.2 ≤ ms ∧ n0 + f.2.2.2.2.2.1 ≤ xB → W p l e R s m args below meth c H locs f.2.2.2.2.2.1 f.2.2.2.2.2.2 Q (F0 m f.1 ls (f.2.2.1.map (xv ad ρ fm)))
def xGood (K : xFr → Prop) (L : xLf → Prop) (r : xRes) : Prop := match r with
  | none => False
  | some (.inl f) => K f
  | some (.inr (.inl lf)) => L lf
  | some (.inr (.inr fs)) => ∀ f ∈ fs, K f
section XROWS
variable {p : Program} {l : Launch} {e : Env} {R : Room} {s : State} {m : MethodId} {args : Array Value} {below : List Frame} {meth : Method} {c : Code} {D : va_G} {cA : Nat → ClassId} {ad : Nat → Nat} {ρ : Nat → Int32} {fm : Value} {A : Nat → Prop} {n0 : Nat} {mi : xMI} {Q : State → Prop} {L : xLf → Prop}
variable {pc : Nat} {lo : List (Option Value)} {st : List Value} {C : List xCel} {rg : xRG} {uc us : Nat}
theorem z_fork {o : Option (List xRG)} (hc : xokR ρ rg → xcov ρ o) (h : xGood (xRn p l e R s m args below meth c D cA ad ρ fm A mi.2.2.2.2.1 n0 mi.2.2.2.2.2.2.2.1 mi.2.2.2.2.2.2.2.2.1 Q) L (xfork pc lo st C uc us o)) : xRn p l e R s m args below meth c D cA ad ρ fm A mi.2.2.2.2.1 n0 mi.2.2.2.2.2.2.2.1 mi.2.2.2.2.2.2.2.2.1 Q (pc, lo, st, C, rg, uc, us) := by
  intro H locs ls hR hL hP hD hS hn
  cases ho : o with
  | none => rw [ho] at h; exact absurd h id
  | some lr =>
    rw [ho] at h
    obtain ⟨rg', h1, h2⟩ := hc hR lr ho
    have h3 := h (pc, lo, st, C, rg', uc, us) (List.mem_map.mpr ⟨rg', h1, rfl⟩)
    exact h3 H locs ls h2 hL hP hD hS hn
theorem z_jump {off : Int} {t : Nat} (ht : (pc : Int) + off = (t : Int)) (h : xGood (xRn p l e R s m args below meth c D cA ad ρ fm A mi.2.2.2.2.1 n0 mi.2.2.2.2.2.2.2.1 mi.2.2.2.2.2.2.2.2.1 Q) L (xjump pc off lo st C rg uc us)) : xRn p l e R s m args below meth c D cA ad ρ fm A mi.2.2.2.2.1 n0 mi.2.2.2.2.2.2.2.1 mi.2.2.2.2.2.2.2.2.1 Q (t, lo, st, C, rg, uc, us) := by
  unfold xjump xtg at h
  rw [ht] at h
  exact h
theorem z_tg {off : Int} (h : xGood (xRn p l e R s m args below meth c D cA ad ρ fm A mi.2.2.2.2.1 n0 mi.2.2.2.2.2.2.2.1 mi.2.2.2.2.2.2.2.2.1 Q) L (xjump pc off lo st C rg uc us)) : ∃ t : Nat, (pc : Int) + off = (t : Int) ∧ xRn p l e R s m args below meth c D cA ad ρ fm A mi.2.2.2.2.1 n0 mi.2.2.2.2.2.2.2.1 mi.2.2.2.2.2.2.2.2.1 Q (t, lo, st, C, rg, uc, us) := by
  cases ht : (pc : Int) + off with
  | ofNat t => exact ⟨t, rfl, z_jump ht h⟩
  | negSucc t =>
    unfold xjump xtg at h
    rw [ht] at h
    exact absurd h id
-- loads
theorem z_load {ok : Value → Bool} {i len : Nat} (h : xGood (xRn p l e R s m args below meth c D cA ad ρ fm A mi.2.2.2.2.1 n0 mi.2.2.2.2.2.2.2.1 mi.2.2.2.2.2.2.2.2.1 Q) L (xload pc lo st C rg uc us ok i len)) : ∃ v, lo[i]? = some (some v) ∧ ok v = true ∧ xRn p l e R s m args below meth c D cA ad ρ fm A mi.2.2.2.2.1 n0 mi.2.2.2.2.2.2.2.1 mi.2.2.2.2.2.2.2.2.1 Q (pc + len, lo, v :: st, C, rg, uc, us) := by
  unfold xload at h
  rw [xnth_eq] at h
  split at h
  · next v hv =>
    split at h
    · next ho => exact ⟨v, hv, ho, h⟩
    · exact absurd h id
  · exact absurd h id
theorem z_iload_n (hE : xEnv p l e R s m args below meth c D cA ad fm A n0 mi) {k : Fin 4} (hdg : decode mi.2.1 pc = .ok (.iload_n k, 1)) (h : xGood (xRn p l e R s m args below meth c D cA ad ρ fm A mi.2.2.2.2.1 n0 mi.2.2.2.2.2.2.2.1 mi.2.2.2.2.2.2.2.2.1 Q) L (xload pc lo st C rg uc us xisI k.val 1)) : xRn p l e R s m args below meth c D cA ad ρ fm A mi.2.2.2.2.1 n0 mi.2.2.2.2.2.2.2.1 mi.2.2.2.2.2.2.2.2.1 Q (pc, lo, st, C, rg, uc, us) := by
  obtain ⟨v, hv, hi, hk⟩ := z_load h
  intro H locs ls hR hL hP hD hS hn
  obtain ⟨x, ex⟩ := xv_I (ad := ad) (ρ := ρ) (fm := fm) hi
  have hl := hL.2.2 _ _ hv
  rw [ex] at hl
  have h2 := hk H locs ls hR hL hP hD hS hn
  simp only [List.map_cons, ex] at h2
  exact lv_iload_n hE.1 hE.2.1 hdg rfl hl h2
theorem z_iload (hE : xEnv p l e R s m args below meth c D cA ad fm A n0 mi) {i : Nat} (hdg : decode mi.2.1 pc = .ok (.iload i, 2)) (h : xGood (xRn p l e R s m args below meth c D cA ad ρ fm A mi.2.2.2.2.1 n0 mi.2.2.2.2.2.2.2.1 mi.2.2.2.2.2.2.2.2.1 Q) L (xload pc lo st C rg uc us xisI i 2)) : xRn p l e R s m args below meth c D cA ad ρ fm A mi.2.2.2.2.1 n0 mi.2.2.2.2.2.2.2.1 mi.2.2.2.2.2.2.2.2.1 Q (pc, lo, st, C, rg, uc, us) := by
  obtain ⟨v, hv, hi, hk⟩ := z_load h
  intro H locs ls hR hL hP hD hS hn
  obtain ⟨x, ex⟩ := xv_I (ad := ad) (ρ := ρ) (fm := fm) hi
  have hl := hL.2.2 _ _ hv
  rw [ex] at hl
  have h2 := hk H locs ls hR hL hP hD hS hn
  simp only [List.map_cons, ex] at h2
  exact lv_iload hE.1 hE.2.1 hdg hl h2
theorem z_lload_n (hE : xEnv p l e R s m args below meth c D cA ad fm A n0 mi) {k : Fin 4} (hdg : decode mi.2.1 pc = .ok (.lload_n k, 1)) (h : xGood (xRn p l e R s m args below meth c D cA ad ρ fm A mi.2.2.2.2.1 n0 mi.2.2.2.2.2.2.2.1 mi.2.2.2.2.2.2.2.2.1 Q) L (xload pc lo st C rg uc us xisL k.val 1)) : xRn p l e R s m args below meth c D cA ad ρ fm A mi.2.2.2.2.1 n0 mi.2.2.2.2.2.2.2.1 mi.2.2.2.2.2.2.2.2.1 Q (pc, lo, st, C, rg, uc, us) := by
  obtain ⟨v, hv, hi, hk⟩ := z_load h
  intro H locs ls hR hL hP hD hS hn
  obtain ⟨x, ex⟩ := xv_L (ad := ad) (ρ := ρ) (fm := fm) hi
  have hl := hL.2.2 _ _ hv
  rw [ex] at hl
  have h2 := hk H locs ls hR hL hP hD hS hn
  simp only [List.map_cons, ex] at h2
  exact lv_lload_n hE.1 hE.2.1 hdg rfl hl h2
theorem z_lload (hE : xEnv p l e R s m args below meth c D cA ad fm A n0 mi) {i : Nat} (hdg : decode mi.2.1 pc = .ok (.lload i, 2)) (h : xGood (xRn p l e R s m args below meth c D cA ad ρ fm A mi.2.2.2.2.1 n0 mi.2.2.2.2.2.2.2.1 mi.2.2.2.2.2.2.2.2.1 Q) L (xload pc lo st C rg uc us xisL i 2)) : xRn p l e R s m args below meth c D cA ad ρ fm A mi.2.2.2.2.1 n0 mi.2.2.2.2.2.2.2.1 mi.2.2.2.2.2.2.2.2.1 Q (pc, lo, st, C, rg, uc, us) := by
  obtain ⟨v, hv, hi, hk⟩ := z_load h
  intro H locs ls hR hL hP hD hS hn
  obtain ⟨x, ex⟩ := xv_L (ad := ad) (ρ := ρ) (fm := fm) hi
  have hl := hL.2.2 _ _ hv
  rw [ex] at hl
  have h2 := hk H locs ls hR hL hP hD hS hn
  simp only [List.map_cons, ex] at h2
  exact lv_lload hE.1 hE.2.1 hdg hl h2
theorem z_F (hE : xEnv p l e R s m args below meth c D cA ad fm A n0 mi) : xokF fm := hE.2.2.2.2.2.2.2.2.2.2.2.2.2.1
theorem z_aload_n (hE : xEnv p l e R s m args below meth c D cA ad fm A n0 mi) {k : Fin 4} (hdg : decode mi.2.1 pc = .ok (.aload_n k, 1)) (h : xGood (xRn p l e R s m args below meth c D cA ad ρ fm A mi.2.2.2.2.1 n0 mi.2.2.2.2.2.2.2.1 mi.2.2.2.2.2.2.2.2.1 Q) L (xload pc lo st C rg uc us xisR k.val 1)) : xRn p l e R s m args below meth c D cA ad ρ fm A mi.2.2.2.2.1 n0 mi.2.2.2.2.2.2.2.1 mi.2.2.2.2.2.2.2.2.1 Q (pc, lo, st, C, rg, uc, us) := by
  obtain ⟨v, hv, hi, hk⟩ := z_load h
  intro H locs ls hR hL hP hD hS hn
  have hl := hL.2.2 _ _ hv
  have h2 := hk H locs ls hR hL hP hD hS hn
  rcases xv_R (ad := ad) (ρ := ρ) (z_F hE) hi with ex | ⟨x, ex⟩
  · rw [ex] at hl
    simp only [List.map_cons, ex] at h2
    exact lv_aload_nN hE.1 hE.2.1 hdg rfl hl h2
  · rw [ex] at hl
    simp only [List.map_cons, ex] at h2
    exact lv_aload_n hE.1 hE.2.1 hdg rfl hl h2
theorem z_aload (hE : xEnv p l e R s m args below meth c D cA ad fm A n0 mi) {i : Nat} (hdg : decode mi.2.1 pc = .ok (.aload i, 2)) (h : xGood (xRn p l e R s m args below meth c D cA ad ρ fm A mi.2.2.2.2.1 n0 mi.2.2.2.2.2.2.2.1 mi.2.2.2.2.2.2.2.2.1 Q) L (xload pc lo st C rg uc us xisR i 2)) : xRn p l e R s m args below meth c D cA ad ρ fm A mi.2.2.2.2.1 n0 mi.2.2.2.2.2.2.2.1 mi.2.2.2.2.2.2.2.2.1 Q (pc, lo, st, C, rg, uc, us) := by
  obtain ⟨v, hv, hi, hk⟩ := z_load h
  intro H locs ls hR hL hP hD hS hn
  have hl := hL.2.2 _ _ hv
  have h2 := hk H locs ls hR hL hP hD hS hn
  rcases xv_R (ad := ad) (ρ := ρ) (z_F hE) hi with ex | ⟨x, ex⟩
  · rw [ex] at hl
    simp only [List.map_cons, ex] at h2
    exact lv_aloadN hE.1 hE.2.1 hdg hl h2
  · rw [ex] at hl
    simp only [List.map_cons, ex] at h2
    exact lv_aload hE.1 hE.2.1 hdg hl h2
-- stores
theorem z_store1 {ok : Value → Bool} {mx i len : Nat} (h : xGood (xRn p l e R s m args below meth c D cA ad ρ fm A mi.2.2.2.2.1 n0 mi.2.2.2.2.2.2.2.1 mi.2.2.2.2.2.2.2.2.1 Q) L (xstore1 pc lo st C rg uc us ok mx i len)) : ∃ v r, st = v :: r ∧ ok v = true ∧ i < mx ∧ xRn p l e R s m args below meth c D cA ad ρ fm A mi.2.2.2.2.1 n0 mi.2.2.2.2.2.2.2.1 mi.2.2.2.2.2.2.2.2.1 Q (pc + len, xs1 lo i v, r, C, rg, uc, us) := by
  unfold xstore1 at h
  split at h
  · next v r =>
    split at h
    · next ho =>
      split at h
      · next hi => rw [xst1_eq] at h; exact ⟨v, r, rfl, ho, hi, h⟩
      · exact absurd h id
    · exact absurd h id
  · exact absurd h id
theorem z_istore_n (hE : xEnv p l e R s m args below meth c D cA ad fm A n0 mi) {k : Fin 4} (hdg : decode mi.2.1 pc = .ok (.istore_n k, 1)) (h : xGood (xRn p l e R s m args below meth c D cA ad ρ fm A mi.2.2.2.2.1 n0 mi.2.2.2.2.2.2.2.1 mi.2.2.2.2.2.2.2.2.1 Q) L (xstore1 pc lo st C rg uc us xisI mi.2.2.2.2.1 k.val 1)) : xRn p l e R s m args below meth c D cA ad ρ fm A mi.2.2.2.2.1 n0 mi.2.2.2.2.2.2.2.1 mi.2.2.2.2.2.2.2.2.1 Q (pc, lo, st, C, rg, uc, us) := by
  obtain ⟨v, r, rfl, hi, hm, hk⟩ := z_store1 h
  intro H locs ls hR hL hP hD hS hn
  obtain ⟨x, ex⟩ := xv_I (ad := ad) (ρ := ρ) (fm := fm) hi
  simp only [List.map_cons, ex]
  refine lv_istore_n hE.1 hE.2.1 hdg rfl hL.has hm rfl (fun ls' hl' => hk H locs ls' hR (xLV_st1 (z_F hE) ?_) hP hD hS hn)
  rw [ex]
  exact hl'
theorem z_istore (hE : xEnv p l e R s m args below meth c D cA ad fm A n0 mi) {i : Nat} (hdg : decode mi.2.1 pc = .ok (.istore i, 2)) (h : xGood (xRn p l e R s m args below meth c D cA ad ρ fm A mi.2.2.2.2.1 n0 mi.2.2.2.2.2.2.2.1 mi.2.2.2.2.2.2.2.2.1 Q) L (xstore1 pc lo st C rg uc us xisI mi.2.2.2.2.1 i 2)) : xRn p l e R s m args below meth c D cA ad ρ fm A mi.2.2.2.2.1 n0 mi.2.2.2.2.2.2.2.1 mi.2.2.2.2.2.2.2.2.1 Q (pc, lo, st, C, rg, uc, us) := by
  obtain ⟨v, r, rfl, hi, hm, hk⟩ := z_store1 h
  intro H locs ls hR hL hP hD hS hn
  obtain ⟨x, ex⟩ := xv_I (ad := ad) (ρ := ρ) (fm := fm) hi
  simp only [List.map_cons, ex]
  refine lv_istore hE.1 hE.2.1 hdg hL.has hm rfl (fun ls' hl' => hk H locs ls' hR (xLV_st1 (z_F hE) ?_) hP hD hS hn)
  rw [ex]
  exact hl'
theorem z_astore_n (hE : xEnv p l e R s m args below meth c D cA ad fm A n0 mi) {k : Fin 4} (hdg : decode mi.2.1 pc = .ok (.astore_n k, 1)) (h : xGood (xRn p l e R s m args below meth c D cA ad ρ fm A mi.2.2.2.2.1 n0 mi.2.2.2.2.2.2.2.1 mi.2.2.2.2.2.2.2.2.1 Q) L (xstore1 pc lo st C rg uc us xisR mi.2.2.2.2.1 k.val 1)) : xRn p l e R s m args below meth c D cA ad ρ fm A mi.2.2.2.2.1 n0 mi.2.2.2.2.2.2.2.1 mi.2.2.2.2.2.2.2.2.1 Q (pc, lo, st, C, rg, uc, us) := by
  obtain ⟨v, r, rfl, hi, hm, hk⟩ := z_store1 h
  intro H locs ls hR hL hP hD hS hn
  rcases xv_R (ad := ad) (ρ := ρ) (z_F hE) hi with ex | ⟨x, ex⟩
  · simp only [List.map_cons, ex]
    refine lv_astore_nN hE.1 hE.2.1 hdg rfl hL.has hm rfl (fun ls' hl' => hk H locs ls' hR (xLV_st1 (z_F hE) ?_) hP hD hS hn)
    rw [ex]
    exact hl'
  · simp only [List.map_cons, ex]
    refine lv_astore_n hE.1 hE.2.1 hdg rfl hL.has hm rfl (fun ls' hl' => hk H locs ls' hR (xLV_st1 (z_F hE) ?_) hP hD hS hn)
    rw [ex]
    exact hl'
theorem z_astore (hE : xEnv p l e R s m args below meth c D cA ad fm A n0 mi) {i : Nat} (hdg : decode mi.2.1 pc = .ok (.astore i, 2)) (h : xGood (xRn p l e R s m args below meth c D cA ad ρ fm A mi.2.2.2.2.1 n0 mi.2.2.2.2.2.2.2.1 mi.2.2.2.2.2.2.2.2.1 Q) L (xstore1 pc lo st C rg uc us xisR mi.2.2.2.2.1 i 2)) : xRn p l e R s m args below meth c D cA ad ρ fm A mi.2.2.2.2.1 n0 mi.2.2.2.2.2.2.2.1 mi.2.2.2.2.2.2.2.2.1 Q (pc, lo, st, C, rg, uc, us) := by
  obtain ⟨v, r, rfl, hi, hm, hk⟩ := z_store1 h
  intro H locs ls hR hL hP hD hS hn
  rcases xv_R (ad := ad) (ρ := ρ) (z_F hE) hi with ex | ⟨x, ex⟩
  · simp only [List.map_cons, ex]
    refine lv_astoreN hE.1 hE.2.1 hdg hL.has hm rfl (fun ls' hl' => hk H locs ls' hR (xLV_st1 (z_F hE) ?_) hP hD hS hn)
    rw [ex]
    exact hl'
  · simp only [List.map_cons, ex]
    refine lv_astore hE.1 hE.2.1 hdg hL.has hm rfl (fun ls' hl' => hk H locs ls' hR (xLV_st1 (z_F hE) ?_) hP hD hS hn)
    rw [ex]
    exact hl'
theorem z_store2 {mx i len : Nat} (h : xGood (xRn p l e R s m args below meth c D cA ad ρ fm A mi.2.2.2.2.1 n0 mi.2.2.2.2.2.2.2.1 mi.2.2.2.2.2.2.2.2.1 Q) L (xstore2 pc lo st C rg uc us mx i len)) : ∃ v r, st = v :: r ∧ xisL v = true ∧ i + 1 < mx ∧ xRn p l e R s m args below meth c D cA ad ρ fm A mi.2.2.2.2.1 n0 mi.2.2.2.2.2.2.2.1 mi.2.2.2.2.2.2.2.2.1 Q (pc + len, (xs1 lo i v).set (i + 1) none, r, C, rg, uc, us) := by
  unfold xstore2 at h
  split at h
  · next v r =>
    split at h
    · next ho =>
      split at h
      · next hi => rw [xst2_eq] at h; exact ⟨v, r, rfl, ho, hi, h⟩
      · exact absurd h id
    · exact absurd h id
  · exact absurd h id
theorem z_lstore_n (hE : xEnv p l e R s m args below meth c D cA ad fm A n0 mi) {k : Fin 4} (hdg : decode mi.2.1 pc = .ok (.lstore_n k, 1)) (h : xGood (xRn p l e R s m args below meth c D cA ad ρ fm A mi.2.2.2.2.1 n0 mi.2.2.2.2.2.2.2.1 mi.2.2.2.2.2.2.2.2.1 Q) L (xstore2 pc lo st C rg uc us mi.2.2.2.2.1 k.val 1)) : xRn p l e R s m args below meth c D cA ad ρ fm A mi.2.2.2.2.1 n0 mi.2.2.2.2.2.2.2.1 mi.2.2.2.2.2.2.2.2.1 Q (pc, lo, st, C, rg, uc, us) := by
  obtain ⟨v, r, rfl, hi, hm, hk⟩ := z_store2 h
  intro H locs ls hR hL hP hD hS hn
  obtain ⟨x, ex⟩ := xv_L (ad := ad) (ρ := ρ) (fm := fm) hi
  simp only [List.map_cons, ex]
  refine lv_lstore_n hE.1 hE.2.1 hdg rfl hL.has hm rfl (fun ls' hl' => hk H locs ls' hR (xLV_st2 (z_F hE) ?_) hP hD hS hn)
  rw [ex]
  exact hl'
theorem z_lstore (hE : xEnv p l e R s m args below meth c D cA ad fm A n0 mi) {i : Nat} (hdg : decode mi.2.1 pc = .ok (.lstore i, 2)) (h : xGood (xRn p l e R s m args below meth c D cA ad ρ fm A mi.2.2.2.2.1 n0 mi.2.2.2.2.2.2.2.1 mi.2.2.2.2.2.2.2.2.1 Q) L (xstore2 pc lo st C rg uc us mi.2.2.2.2.1 i 2)) : xRn p l e R s m args below meth c D cA ad ρ fm A mi.2.2.2.2.1 n0 mi.2.2.2.2.2.2.2.1 mi.2.2.2.2.2.2.2.2.1 Q (pc, lo, st, C, rg, uc, us) := by
  obtain ⟨v, r, rfl, hi, hm, hk⟩ := z_store2 h
  intro H locs ls hR hL hP hD hS hn
  obtain ⟨x, ex⟩ := xv_L (ad := ad) (ρ := ρ) (fm := fm) hi
  simp only [List.map_cons, ex]
  refine lv_lstore hE.1 hE.2.1 hdg hL.has hm rfl (fun ls' hl' => hk H locs ls' hR (xLV_st2 (z_F hE) ?_) hP hD hS hn)
  rw [ex]
  exact hl'
-- numbers
theorem z_bin {f : Int32 → Int32 → Option Int32} (row : ∀ (x y z : Int32), f x y = some z → ∀ (H : Heap) (locs : List Loc) (ls : Array Slot) (rest : List Value), W p l e R s m args below meth c H locs uc us Q (F0 m (pc + 1) ls (.int z :: rest)) → W p l e R s m args below meth c H locs uc us Q (F0 m pc ls (.int y :: .int x :: rest))) (h : xGood (xRn p l e R s m args below meth c D cA ad ρ fm A mi.2.2.2.2.1 n0 mi.2.2.2.2.2.2.2.1 mi.2.2.2.2.2.2.2.2.1 Q) L (xbin pc lo st C rg uc us f)) : xRn p l e R s m args below meth c D cA ad ρ fm A mi.2.2.2.2.1 n0 mi.2.2.2.2.2.2.2.1 mi.2.2.2.2.2.2.2.2.1 Q (pc, lo, st, C, rg, uc, us) := by
  unfold xbin at h
  split at h
  · next b a r =>
    split at h
    · next x hx =>
      split at h
      · next y hy =>
        split at h
        · next z hz =>
          rw [xfI_eq] at h
          intro H locs ls hR hL hP hD hS hn
          have e1 := xci_ok (ad := ad) (fm := fm) hR hx
          have e2 := xci_ok (ad := ad) (fm := fm) hR hy
          have h2 := h H locs ls hR hL hP hD hS hn
          simp only [List.map_cons, e1, e2] at h2 ⊢
          exact row x y z hz H locs ls _ h2
        · exact absurd h id
      · exact z_fork (fun hR => xcov_cs hR _) h
    · exact z_fork (fun hR => xcov_cs hR _) h
  · exact absurd h id
theorem z_add (hE : xEnv p l e R s m args below meth c D cA ad fm A n0 mi) (hdg : decode mi.2.1 pc = .ok (.iadd, 1)) (h : xGood (xRn p l e R s m args below meth c D cA ad ρ fm A mi.2.2.2.2.1 n0 mi.2.2.2.2.2.2.2.1 mi.2.2.2.2.2.2.2.2.1 Q) L (xadd pc lo st C rg uc us)) : xRn p l e R s m args below meth c D cA ad ρ fm A mi.2.2.2.2.1 n0 mi.2.2.2.2.2.2.2.1 mi.2.2.2.2.2.2.2.2.1 Q (pc, lo, st, C, rg, uc, us) := by
  have row : ∀ (x y z : Int32), (fun x y => some (x + y)) x y = some z → ∀ (H : Heap) (locs : List Loc) (ls : Array Slot) (rest : List Value), W p l e R s m args below meth c H locs uc us Q (F0 m (pc + 1) ls (.int z :: rest)) → W p l e R s m args below meth c H locs uc us Q (F0 m pc ls (.int y :: .int x :: rest)) := by
    intro x y z hz H locs ls rest k
    cases hz
    exact lv_iadd hE.1 hE.2.1 hdg k
  unfold xadd at h
  split at h
  · next y j r =>
    split at h
    · exact z_bin row h
    · split at h
      · next lr hl => exact z_fork (fun hR => by rw [← hl]; exact xcov_cs hR _) h
      · split at h
        · next hj =>
          intro H locs ls hR hL hP hD hS hn
          have h2 := h H locs ls hR hL hP hD hS hn
          have e1 : xv ad ρ fm (.retAddr (j + 32 * y.toBitVec.toNat)) = .int ((ρ (j % 32 / 2) + Int32.ofNat (j / 32)) + y) := by
            have a1 : (j + 32 * y.toBitVec.toNat) % 2 = 0 := by omega
            have a2 : (j + 32 * y.toBitVec.toNat) % 32 = j % 32 := by omega
            have a3 : (j + 32 * y.toBitVec.toNat) / 32 = j / 32 + y.toBitVec.toNat := by omega
            rw [xv, if_pos a1, a2, a3, Int32.ofNat_add, xfI_ofNat, Int32.add_assoc]
          have e2 : xv ad ρ fm (.retAddr j) = .int (ρ (j % 32 / 2) + Int32.ofNat (j / 32)) := by rw [xv, if_pos hj]
          have e3 : xv ad ρ fm (.int y) = .int y := rfl
          simp only [List.map_cons, e1, e2, e3] at h2 ⊢
          exact lv_iadd hE.1 hE.2.1 hdg h2
        · exact absurd h id
  · exact z_bin row h
theorem z_un {f : Int32 → Int32} (row : ∀ (x : Int32) (H : Heap) (locs : List Loc) (ls : Array Slot) (rest : List Value), W p l e R s m args below meth c H locs uc us Q (F0 m (pc + 1) ls (.int (f x) :: rest)) → W p l e R s m args below meth c H locs uc us Q (F0 m pc ls (.int x :: rest))) (h : xGood (xRn p l e R s m args below meth c D cA ad ρ fm A mi.2.2.2.2.1 n0 mi.2.2.2.2.2.2.2.1 mi.2.2.2.2.2.2.2.2.1 Q) L (xun pc lo st C rg uc us f)) : xRn p l e R s m args below meth c D cA ad ρ fm A mi.2.2.2.2.1 n0 mi.2.2.2.2.2.2.2.1 mi.2.2.2.2.2.2.2.2.1 Q (pc, lo, st, C, rg, uc, us) := by
  unfold xun at h
  split at h
  · next a r =>
    split at h
    · next x hx =>
      rw [xfI_eq] at h
      intro H locs ls hR hL hP hD hS hn
      have e1 := xci_ok (ad := ad) (fm := fm) hR hx
      have h2 := h H locs ls hR hL hP hD hS hn
      simp only [List.map_cons, e1] at h2 ⊢
      exact row x H locs ls _ h2
    · exact z_fork (fun hR => xcov_cs hR _) h
  · exact absurd h id
theorem z_binL {f : Int64 → Int64 → Option Int64} (row : ∀ (x y z : Int64), f x y = some z → ∀ (H : Heap) (locs : List Loc) (ls : Array Slot) (rest : List Value), W p l e R s m args below meth c H locs uc us Q (F0 m (pc + 1) ls (.long z :: rest)) → W p l e R s m args below meth c H locs uc us Q (F0 m pc ls (.long y :: .long x :: rest))) (h : xGood (xRn p l e R s m args below meth c D cA ad ρ fm A mi.2.2.2.2.1 n0 mi.2.2.2.2.2.2.2.1 mi.2.2.2.2.2.2.2.2.1 Q) L (xbinL pc lo st C rg uc us f)) : xRn p l e R s m args below meth c D cA ad ρ fm A mi.2.2.2.2.1 n0 mi.2.2.2.2.2.2.2.1 mi.2.2.2.2.2.2.2.2.1 Q (pc, lo, st, C, rg, uc, us) := by
  unfold xbinL at h
  split at h
  · next b a r =>
    split at h
    · next x hx =>
      split at h
      · next y hy =>
        split at h
        · next z hz =>
          intro H locs ls hR hL hP hD hS hn
          have e1 := xcl_ok (ad := ad) (ρ := ρ) (fm := fm) hx
          have e2 := xcl_ok (ad := ad) (ρ := ρ) (fm := fm) hy
          have h2 := h H locs ls hR hL hP hD hS hn
          simp only [List.map_cons, e1, e2] at h2 ⊢
          exact row x y z hz H locs ls _ h2
        · exact absurd h id
      · exact absurd h id
    · exact absurd h id
  · exact absurd h id
theorem z_i2l (hE : xEnv p l e R s m args below meth c D cA ad fm A n0 mi) (hdg : decode mi.2.1 pc = .ok (.i2l, 1)) (h : xGood (xRn p l e R s m args below meth c D cA ad ρ fm A mi.2.2.2.2.1 n0 mi.2.2.2.2.2.2.2.1 mi.2.2.2.2.2.2.2.2.1 Q) L (xi2l pc lo st C rg uc us)) : xRn p l e R s m args below meth c D cA ad ρ fm A mi.2.2.2.2.1 n0 mi.2.2.2.2.2.2.2.1 mi.2.2.2.2.2.2.2.2.1 Q (pc, lo, st, C, rg, uc, us) := by
  unfold xi2l at h
  split at h
  · next x r =>
    intro H locs ls hR hL hP hD hS hn
    exact lv_i2l hE.1 hE.2.1 hdg rfl (h H locs ls hR hL hP hD hS hn)
  · next j r =>
    split at h
    · next hj =>
      intro H locs ls hR hL hP hD hS hn
      have h2 := h H locs ls hR hL hP hD hS hn
      have e1 : xv ad ρ fm (.retAddr (j + 1)) = .long (ρ (j % 32 / 2) + Int32.ofNat (j / 32)).toInt64 := by
        have a1 : ¬ (j + 1) % 2 = 0 := by omega
        have a2 : (j + 1) % 32 / 2 = j % 32 / 2 := by omega
        have a3 : (j + 1) / 32 = j / 32 := by omega
        rw [xv, if_neg a1, a2, a3]
      have e2 : xv ad ρ fm (.retAddr j) = .int (ρ (j % 32 / 2) + Int32.ofNat (j / 32)) := by rw [xv, if_pos hj]
      simp only [List.map_cons, e1, e2] at h2 ⊢
      exact lv_i2l hE.1 hE.2.1 hdg rfl h2
    · exact absurd h id
  · exact absurd h id
theorem z_l2i (hE : xEnv p l e R s m args below meth c D cA ad fm A n0 mi) (hdg : decode mi.2.1 pc = .ok (.l2i, 1)) (h : xGood (xRn p l e R s m args below meth c D cA ad ρ fm A mi.2.2.2.2.1 n0 mi.2.2.2.2.2.2.2.1 mi.2.2.2.2.2.2.2.2.1 Q) L (xl2i pc lo st C rg uc us)) : xRn p l e R s m args below meth c D cA ad ρ fm A mi.2.2.2.2.1 n0 mi.2.2.2.2.2.2.2.1 mi.2.2.2.2.2.2.2.2.1 Q (pc, lo, st, C, rg, uc, us) := by
  unfold xl2i at h
  split at h
  · next x r =>
    intro H locs ls hR hL hP hD hS hn
    exact lv_l2i hE.1 hE.2.1 hdg rfl (h H locs ls hR hL hP hD hS hn)
  · next j r =>
    split at h
    · next hj =>
      intro H locs ls hR hL hP hD hS hn
      have h2 := h H locs ls hR hL hP hD hS hn
      have e1 : xv ad ρ fm (.retAddr (j - 1)) = .int (ρ (j % 32 / 2) + Int32.ofNat (j / 32)) := by
        have a1 : (j - 1) % 2 = 0 := by omega
        have a2 : (j - 1) % 32 / 2 = j % 32 / 2 := by omega
        have a3 : (j - 1) / 32 = j / 32 := by omega
        rw [xv, if_pos a1, a2, a3]
      have e2 : xv ad ρ fm (.retAddr j) = .long (ρ (j % 32 / 2) + Int32.ofNat (j / 32)).toInt64 := by rw [xv, if_neg (by omega)]
      simp only [List.map_cons, e1, e2] at h2 ⊢
      exact lv_l2i hE.1 hE.2.1 hdg (by simp) h2
    · exact absurd h id
  · exact absurd h id
theorem z_lcmp (hE : xEnv p l e R s m args below meth c D cA ad fm A n0 mi) (hdg : decode mi.2.1 pc = .ok (.lcmp, 1)) (h : xGood (xRn p l e R s m args below meth c D cA ad ρ fm A mi.2.2.2.2.1 n0 mi.2.2.2.2.2.2.2.1 mi.2.2.2.2.2.2.2.2.1 Q) L (xlcmp pc lo st C rg uc us)) : xRn p l e R s m args below meth c D cA ad ρ fm A mi.2.2.2.2.1 n0 mi.2.2.2.2.2.2.2.1 mi.2.2.2.2.2.2.2.2.1 Q (pc, lo, st, C, rg, uc, us) := by
  unfold xlcmp at h
  split at h
  · next b a r =>
    split at h
    · next ia ha =>
      split at h
      · next ib hb =>
        have go : ∀ v : Int32, (∀ x y : Int64, ia.1 ≤ x.toInt ∧ x.toInt ≤ ia.2 → ib.1 ≤ y.toInt ∧ y.toInt ≤ ib.2 → lg_cmp x y = v) → xRn p l e R s m args below meth c D cA ad ρ fm A mi.2.2.2.2.1 n0 mi.2.2.2.2.2.2.2.1 mi.2.2.2.2.2.2.2.2.1 Q (pc + 1, lo, .int v :: r, C, rg, uc, us) → xRn p l e R s m args below meth c D cA ad ρ fm A mi.2.2.2.2.1 n0 mi.2.2.2.2.2.2.2.1 mi.2.2.2.2.2.2.2.2.1 Q (pc, lo, b :: a :: r, C, rg, uc, us) := by
          intro v hv k H locs ls hR hL hP hD hS hn
          obtain ⟨x, ex, hx⟩ := xlv_ok (ad := ad) (fm := fm) hR ha
          obtain ⟨y, ey, hy⟩ := xlv_ok (ad := ad) (fm := fm) hR hb
          have h2 := k H locs ls hR hL hP hD hS hn
          simp only [List.map_cons, ex, ey] at h2 ⊢
          refine W.lcmp hE.1 hE.2.1 hdg ?_
          rw [hv x y hx hy]
          exact h2
        split at h
        · next h1 =>
          refine go (-1) (fun x y hx hy => ?_) h
          have : ¬ x > y := by rw [gt_iff_lt, Int64.lt_iff_toInt_lt]; omega
          have n2 : ¬ x = y := fun q => by rw [q] at hx; omega
          rw [lg_cmp, if_neg this, if_neg n2]
        · split at h
          · next h1 h2 =>
            refine go 1 (fun x y hx hy => ?_) h
            have : x > y := by rw [gt_iff_lt, Int64.lt_iff_toInt_lt]; omega
            rw [lg_cmp, if_pos this]
          · split at h
            · next h1 h2 h3 =>
              refine go 0 (fun x y hx hy => ?_) h
              have e : x = y := Int64.toInt_inj.mp (by omega)
              have : ¬ x > y := by rw [gt_iff_lt, Int64.lt_iff_toInt_lt, e]; omega
              rw [lg_cmp, if_neg this, if_pos e]
            · exact z_fork (fun hR => xcov_else (xcov_sp hR _ _) (xcov_else (xcov_sp hR _ _) (xcov_else (xcov_sp hR _ _) (xcov_sp hR _ _)))) h
      · exact absurd h id
    · exact absurd h id
  · exact absurd h id
-- branches
theorem z_fall {off : Int} (h : xGood (xRn p l e R s m args below meth c D cA ad ρ fm A mi.2.2.2.2.1 n0 mi.2.2.2.2.2.2.2.1 mi.2.2.2.2.2.2.2.2.1 Q) L (xfall pc off lo st C rg uc us)) : ∃ t : Nat, (pc : Int) + off = (t : Int) ∧ xRn p l e R s m args below meth c D cA ad ρ fm A mi.2.2.2.2.1 n0 mi.2.2.2.2.2.2.2.1 mi.2.2.2.2.2.2.2.2.1 Q (pc + 3, lo, st, C, rg, uc, us) := by
  unfold xfall xtg at h
  cases ht : (pc : Int) + off with
  | ofNat t => rw [ht] at h; exact ⟨t, rfl, h⟩
  | negSucc t => rw [ht] at h; exact absurd h id
theorem z_icmp (hE : xEnv p l e R s m args below meth c D cA ad fm A n0 mi) {cc : ClassFile.Cond} {off : Int} (hdg : decode mi.2.1 pc = .ok (.if_icmp cc off, 3)) (h : xGood (xRn p l e R s m args below meth c D cA ad ρ fm A mi.2.2.2.2.1 n0 mi.2.2.2.2.2.2.2.1 mi.2.2.2.2.2.2.2.2.1 Q) L (xicmp pc lo st C rg uc us cc off)) : xRn p l e R s m args below meth c D cA ad ρ fm A mi.2.2.2.2.1 n0 mi.2.2.2.2.2.2.2.1 mi.2.2.2.2.2.2.2.2.1 Q (pc, lo, st, C, rg, uc, us) := by
  unfold xicmp at h
  split at h
  · next b a r =>
    split at h
    · next ia ha =>
      split at h
      · next ib hb =>
        split at h
        · next hc =>
          obtain ⟨t, ht, k⟩ := z_tg h
          intro H locs ls hR hL hP hD hS hn
          obtain ⟨x, ex, hx⟩ := xiv_ok (ad := ad) (fm := fm) hR ha
          obtain ⟨y, ey, hy⟩ := xiv_ok (ad := ad) (fm := fm) hR hb
          have h2 := k H locs ls hR hL hP hD hS hn
          have hq := (xcmp_ok hc hx hy).mp rfl
          simp only [List.map_cons, ex, ey]
          cases cc with
          | eq => exact lv_icmp_eq hE.1 hE.2.1 hdg ht (fun _ => h2) (fun q => absurd hq q)
          | ne => exact lv_icmp_ne hE.1 hE.2.1 hdg ht (fun _ => h2) (fun q => absurd q hq)
          | lt => exact lv_icmp_lt hE.1 hE.2.1 hdg ht (fun _ => h2) (fun q => absurd hq q)
          | ge => exact lv_icmp_ge hE.1 hE.2.1 hdg ht (fun _ => h2) (fun q => absurd hq q)
          | gt => exact lv_icmp_gt hE.1 hE.2.1 hdg ht (fun _ => h2) (fun q => absurd hq q)
          | le => exact lv_icmp_le hE.1 hE.2.1 hdg ht (fun _ => h2) (fun q => absurd hq q)
        · next hc =>
          obtain ⟨t, ht, k⟩ := z_fall h
          intro H locs ls hR hL hP hD hS hn
          obtain ⟨x, ex, hx⟩ := xiv_ok (ad := ad) (fm := fm) hR ha
          obtain ⟨y, ey, hy⟩ := xiv_ok (ad := ad) (fm := fm) hR hb
          have h2 := k H locs ls hR hL hP hD hS hn
          have hq : ¬ xcP cc x y := fun q => by have := (xcmp_ok hc hx hy).mpr q; cases this
          simp only [List.map_cons, ex, ey]
          cases cc with
          | eq => exact lv_icmp_eq hE.1 hE.2.1 hdg ht (fun q => absurd q hq) (fun _ => h2)
          | ne => exact lv_icmp_ne hE.1 hE.2.1 hdg ht (fun q => absurd q hq) (fun _ => h2)
          | lt => exact lv_icmp_lt hE.1 hE.2.1 hdg ht (fun q => absurd q hq) (fun _ => h2)
          | ge => exact lv_icmp_ge hE.1 hE.2.1 hdg ht (fun q => absurd q hq) (fun _ => h2)
          | gt => exact lv_icmp_gt hE.1 hE.2.1 hdg ht (fun q => absurd q hq) (fun _ => h2)
          | le => exact lv_icmp_le hE.1 hE.2.1 hdg ht (fun q => absurd q hq) (fun _ => h2)
        · exact z_fork (fun hR => xcov_else (xcov_sp hR _ _) (xcov_else (xcov_sp hR _ _) (xcov_else (xcov_sp hR _ _) (xcov_sp hR _ _)))) h
      · exact absurd h id
    · exact absurd h id
  · exact absurd h id
theorem z_if (hE : xEnv p l e R s m args below meth c D cA ad fm A n0 mi) {cc : ClassFile.Cond} {off : Int} (hdg : decode mi.2.1 pc = .ok (.ifCond cc off, 3)) (h : xGood (xRn p l e R s m args below meth c D cA ad ρ fm A mi.2.2.2.2.1 n0 mi.2.2.2.2.2.2.2.1 mi.2.2.2.2.2.2.2.2.1 Q) L (xif pc lo st C rg uc us cc off)) : xRn p l e R s m args below meth c D cA ad ρ fm A mi.2.2.2.2.1 n0 mi.2.2.2.2.2.2.2.1 mi.2.2.2.2.2.2.2.2.1 Q (pc, lo, st, C, rg, uc, us) := by
  have h0 : (((0, 0) : Int × Int).1 ≤ (0 : Int32).toInt ∧ (0 : Int32).toInt ≤ ((0, 0) : Int × Int).2) := ⟨Int.le_refl _, Int.le_refl _⟩
  unfold xif at h
  split at h
  · next a r =>
    split at h
    · next ia ha =>
      split at h
      · next hc =>
        obtain ⟨t, ht, k⟩ := z_tg h
        intro H locs ls hR hL hP hD hS hn
        obtain ⟨x, ex, hx⟩ := xiv_ok (ad := ad) (fm := fm) hR ha
        have h2 := k H locs ls hR hL hP hD hS hn
        have hq := (xcmp_ok hc hx h0).mp rfl
        simp only [List.map_cons, ex]
        cases cc with
        | eq => exact lv_if_eq hE.1 hE.2.1 hdg ht (fun _ => h2) (fun q => absurd hq q)
        | ne => exact lv_if_ne hE.1 hE.2.1 hdg ht (fun _ => h2) (fun q => absurd q hq)
        | lt => exact lv_if_lt hE.1 hE.2.1 hdg ht (fun _ => h2) (fun q => absurd hq q)
        | ge => exact lv_if_ge hE.1 hE.2.1 hdg ht (fun _ => h2) (fun q => absurd hq q)
        | gt => exact lv_if_gt hE.1 hE.2.1 hdg ht (fun _ => h2) (fun q => absurd hq q)
        | le => exact lv_if_le hE.1 hE.2.1 hdg ht (fun _ => h2) (fun q => absurd hq q)
      · next hc =>
        obtain ⟨t, ht, k⟩ := z_fall h
        intro H locs ls hR hL hP hD hS hn
        obtain ⟨x, ex, hx⟩ := xiv_ok (ad := ad) (fm := fm) hR ha
        have h2 := k H locs ls hR hL hP hD hS hn
        have hq : ¬ xcP cc x 0 := fun q => by have := (xcmp_ok hc hx h0).mpr q; cases this
        simp only [List.map_cons, ex]
        cases cc with
        | eq => exact lv_if_eq hE.1 hE.2.1 hdg ht (fun q => absurd q hq) (fun _ => h2)
        | ne => exact lv_if_ne hE.1 hE.2.1 hdg ht (fun q => absurd q hq) (fun _ => h2)
        | lt => exact lv_if_lt hE.1 hE.2.1 hdg ht (fun q => absurd q hq) (fun _ => h2)
        | ge => exact lv_if_ge hE.1 hE.2.1 hdg ht (fun q => absurd q hq) (fun _ => h2)
        | gt => exact lv_if_gt hE.1 hE.2.1 hdg ht (fun q => absurd q hq) (fun _ => h2)
        | le => exact lv_if_le hE.1 hE.2.1 hdg ht (fun q => absurd q hq) (fun _ => h2)
      · exact z_fork (fun hR => xcov_else (xcov_sp hR _ _) (xcov_sp hR _ _)) h
    · exact absurd h id
  · exact absurd h id
theorem z_goto (hE : xEnv p l e R s m args below meth c D cA ad fm A n0 mi) {off : Int} (hdg : decode mi.2.1 pc = .ok (.goto off, 3)) (h : xGood (xRn p l e R s m args below meth c D cA ad ρ fm A mi.2.2.2.2.1 n0 mi.2.2.2.2.2.2.2.1 mi.2.2.2.2.2.2.2.2.1 Q) L (xjump pc off lo st C rg uc us)) : xRn p l e R s m args below meth c D cA ad ρ fm A mi.2.2.2.2.1 n0 mi.2.2.2.2.2.2.2.1 mi.2.2.2.2.2.2.2.2.1 Q (pc, lo, st, C, rg, uc, us) := by
  obtain ⟨t, ht, k⟩ := z_tg h
  intro H locs ls hR hL hP hD hS hn
  exact lv_goto hE.1 hE.2.1 hdg ht (k H locs ls hR hL hP hD hS hn)
theorem z_iinc (hE : xEnv p l e R s m args below meth c D cA ad fm A n0 mi) {i : Nat} {n : Int} (hdg : decode mi.2.1 pc = .ok (.iinc i n, 3)) (h : xGood (xRn p l e R s m args below meth c D cA ad ρ fm A mi.2.2.2.2.1 n0 mi.2.2.2.2.2.2.2.1 mi.2.2.2.2.2.2.2.2.1 Q) L (xiinc pc lo st C rg uc us mi.2.2.2.2.1 i n)) : xRn p l e R s m args below meth c D cA ad ρ fm A mi.2.2.2.2.1 n0 mi.2.2.2.2.2.2.2.1 mi.2.2.2.2.2.2.2.2.1 Q (pc, lo, st, C, rg, uc, us) := by
  unfold xiinc at h
  rw [xnth_eq] at h
  split at h
  · next v hv =>
    split at h
    · next hi =>
      split at h
      · next x hx =>
        rw [xfI_eq, xst1_eq] at h
        intro H locs ls hR hL hP hD hS hn
        have e1 := xci_ok (ad := ad) (fm := fm) hR hx
        obtain ⟨k, hk⟩ := List.getElem?_of_mem (xlist_mem (V := xv ad ρ fm) hv)
        rw [e1] at hk
        refine lv_iinc hE.1 hE.2.1 hdg hL.has hk rfl hi rfl (fun ls' hl' => h H locs ls' hR (xLV_st1 (z_F hE) ?_) hP hD hS hn)
        exact hl'
      · exact z_fork (fun hR => xcov_cs hR _) h
    · exact absurd h id
  · exact absurd h id
theorem z_table (hE : xEnv p l e R s m args below meth c D cA ad fm A n0 mi) {d low hi : Int} {offs : Array Int} {len : Nat} (hdg : decode mi.2.1 pc = .ok (.tableswitch d low hi offs, len)) (h : xGood (xRn p l e R s m args below meth c D cA ad ρ fm A mi.2.2.2.2.1 n0 mi.2.2.2.2.2.2.2.1 mi.2.2.2.2.2.2.2.2.1 Q) L (xtable pc lo st C rg uc us d low hi offs.toList)) : xRn p l e R s m args below meth c D cA ad ρ fm A mi.2.2.2.2.1 n0 mi.2.2.2.2.2.2.2.1 mi.2.2.2.2.2.2.2.2.1 Q (pc, lo, st, C, rg, uc, us) := by
  unfold xtable at h
  split at h
  · next a r =>
    split at h
    · next ia ha =>
      split at h
      · next h1 =>
        obtain ⟨t, ht, k⟩ := z_tg h
        intro H locs ls hR hL hP hD hS hn
        obtain ⟨x, ex, hx⟩ := xiv_ok (ad := ad) (fm := fm) hR ha
        have h2 := k H locs ls hR hL hP hD hS hn
        simp only [List.map_cons, ex]
        exact lv_tableOut hE.1 hE.2.1 hdg (Or.inl (by omega)) ht h2
      · split at h
        · next h1 h3 =>
          obtain ⟨t, ht, k⟩ := z_tg h
          intro H locs ls hR hL hP hD hS hn
          obtain ⟨x, ex, hx⟩ := xiv_ok (ad := ad) (fm := fm) hR ha
          have h2 := k H locs ls hR hL hP hD hS hn
          simp only [List.map_cons, ex]
          exact lv_tableOut hE.1 hE.2.1 hdg (Or.inr (by omega)) ht h2
        · split at h
          · next h1 h3 h4 =>
            split at h
            · next off ho =>
              obtain ⟨t, ht, k⟩ := z_tg h
              intro H locs ls hR hL hP hD hS hn
              obtain ⟨x, ex, hx⟩ := xiv_ok (ad := ad) (fm := fm) hR ha
              have h2 := k H locs ls hR hL hP hD hS hn
              simp only [List.map_cons, ex]
              have e1 : x.toInt = ia.1 := by omega
              rw [xnth_eq, Array.getElem?_toList, ← e1] at ho
              exact lv_tableIn hE.1 hE.2.1 hdg (by omega) (by omega) ho ht h2
            · exact absurd h id
          · exact z_fork (fun hR => xcov_else (xcov_sp hR _ _) (xcov_else (xcov_sp hR _ _) (xcov_sp hR _ _))) h
    · exact absurd h id
  · exact absurd h id
theorem z_look (hE : xEnv p l e R s m args below meth c D cA ad fm A n0 mi) {d : Int} {ps : Array (Int × Int)} {len : Nat} (hdg : decode mi.2.1 pc = .ok (.lookupswitch d ps, len)) (h : xGood (xRn p l e R s m args below meth c D cA ad ρ fm A mi.2.2.2.2.1 n0 mi.2.2.2.2.2.2.2.1 mi.2.2.2.2.2.2.2.2.1 Q) L (xlook pc lo st C rg uc us d ps.toList)) : xRn p l e R s m args below meth c D cA ad ρ fm A mi.2.2.2.2.1 n0 mi.2.2.2.2.2.2.2.1 mi.2.2.2.2.2.2.2.2.1 Q (pc, lo, st, C, rg, uc, us) := by
  unfold xlook at h
  split at h
  · next a r =>
    split at h
    · next x hx =>
      split at h
      · next hp =>
        obtain ⟨t, ht, k⟩ := z_tg h
        intro H locs ls hR hL hP hD hS hn
        have e1 := xci_ok (ad := ad) (fm := fm) hR hx
        have h2 := k H locs ls hR hL hP hD hS hn
        simp only [List.map_cons, e1]
        exact lv_lookup hE.1 hE.2.1 hdg hp rfl ht h2
      · exact absurd h id
    · refine z_fork (fun hR => xcov_else (xcov_cs hR _) ?_) h
      split
      · refine xcov_else (xcov_sp hR _ _) ?_
        split
        · exact xcov_sp hR _ _
        · exact xcov_none
      · exact xcov_none
  · exact absurd h id
theorem z_cat {v : Value} (hE : xEnv p l e R s m args below meth c D cA ad fm A n0 mi) {b : Bool} (h : xc2 v = b) : (xv ad ρ fm v).category = if b = true then 2 else 1 := by
  rw [xv_cat (z_F hE), h]
theorem z_dup (hE : xEnv p l e R s m args below meth c D cA ad fm A n0 mi) (hdg : decode mi.2.1 pc = .ok (.dup, 1)) (h : xGood (xRn p l e R s m args below meth c D cA ad ρ fm A mi.2.2.2.2.1 n0 mi.2.2.2.2.2.2.2.1 mi.2.2.2.2.2.2.2.2.1 Q) L (xdup pc lo st C rg uc us)) : xRn p l e R s m args below meth c D cA ad ρ fm A mi.2.2.2.2.1 n0 mi.2.2.2.2.2.2.2.1 mi.2.2.2.2.2.2.2.2.1 Q (pc, lo, st, C, rg, uc, us) := by
  unfold xdup at h
  split at h
  · next a r =>
    split at h
    · exact absurd h id
    · next ha =>
      intro H locs ls hR hL hP hD hS hn
      have hc := xv_cat (ad := ad) (ρ := ρ) (z_F hE) a
      rw [if_neg ha] at hc
      exact lv_dup hE.1 hE.2.1 hdg hc (h H locs ls hR hL hP hD hS hn)
  · exact absurd h id
theorem z_dup2 (hE : xEnv p l e R s m args below meth c D cA ad fm A n0 mi) (hdg : decode mi.2.1 pc = .ok (.dup2, 1)) (h : xGood (xRn p l e R s m args below meth c D cA ad ρ fm A mi.2.2.2.2.1 n0 mi.2.2.2.2.2.2.2.1 mi.2.2.2.2.2.2.2.2.1 Q) L (xdup2 pc lo st C rg uc us)) : xRn p l e R s m args below meth c D cA ad ρ fm A mi.2.2.2.2.1 n0 mi.2.2.2.2.2.2.2.1 mi.2.2.2.2.2.2.2.2.1 Q (pc, lo, st, C, rg, uc, us) := by
  unfold xdup2 at h
  split at h
  · next a b r =>
    have hca := xv_cat (ad := ad) (ρ := ρ) (z_F hE) a
    have hcb := xv_cat (ad := ad) (ρ := ρ) (z_F hE) b
    split at h
    · next ha =>
      rw [if_pos ha] at hca
      intro H locs ls hR hL hP hD hS hn
      exact lv_dup2_2 hE.1 hE.2.1 hdg hca (h H locs ls hR hL hP hD hS hn)
    · next ha =>
      rw [if_neg ha] at hca
      split at h
      · exact absurd h id
      · next hb =>
        rw [if_neg hb] at hcb
        intro H locs ls hR hL hP hD hS hn
        exact lv_dup2_11 hE.1 hE.2.1 hdg hca hcb (h H locs ls hR hL hP hD hS hn)
  · next a =>
    have hca := xv_cat (ad := ad) (ρ := ρ) (z_F hE) a
    split at h
    · next ha =>
      rw [if_pos ha] at hca
      intro H locs ls hR hL hP hD hS hn
      exact lv_dup2_2 hE.1 hE.2.1 hdg hca (h H locs ls hR hL hP hD hS hn)
    · exact absurd h id
  · exact absurd h id
theorem z_pop (hE : xEnv p l e R s m args below meth c D cA ad fm A n0 mi) (hdg : decode mi.2.1 pc = .ok (.pop, 1)) (h : xGood (xRn p l e R s m args below meth c D cA ad ρ fm A mi.2.2.2.2.1 n0 mi.2.2.2.2.2.2.2.1 mi.2.2.2.2.2.2.2.2.1 Q) L (xpop1 pc lo st C rg uc us)) : xRn p l e R s m args below meth c D cA ad ρ fm A mi.2.2.2.2.1 n0 mi.2.2.2.2.2.2.2.1 mi.2.2.2.2.2.2.2.2.1 Q (pc, lo, st, C, rg, uc, us) := by
  unfold xpop1 at h
  split at h
  · next a r =>
    split at h
    · exact absurd h id
    · next ha =>
      intro H locs ls hR hL hP hD hS hn
      have hc := xv_cat (ad := ad) (ρ := ρ) (z_F hE) a
      rw [if_neg ha] at hc
      exact lv_pop hE.1 hE.2.1 hdg hc (h H locs ls hR hL hP hD hS hn)
  · exact absurd h id
end XROWS
end
section
/-! the heap's instructions -/
def kxT (ci : Nat) : Nat → FieldType := match ci with
  | 0 => tyX0
  | 1 => tyX1
  | 2 => tyX2
  | 3 => tyX3
  | 4 => tyX4
  | 5 => tyX5
  | 6 => tyX6
  | _ => tyX7
def kxR (ci k : Nat) : Bool := match kxT ci k with
  | .object _ => xty ci k == 2
  | .array _ => xty ci k == 2
  | .int => xty ci k == 0
  | .boolean => xty ci k == 1
  | .long => xty ci k == 3
  | _ => false
def kxD (ci k : Nat) : Bool := decide (defaultValue (kxT ci k) = vp_V (xDf.getD ci []) k)
def kxOK (ci : Nat) (q : vw_C) : Prop := (∀ w ∈ u_ws q.1 q.2.1 q.2.2, w ∈ wsL_law) ∧ (∀ k, k < q.2.2 → parseFieldDescriptor (q.2.1 k).2.2.1 = some (kxT ci k)) ∧ (∀ a, a < q.2.2 → ∀ b, b < q.2.2 → a ≠ b → (q.2.1 a).2.1 ≠ (q.2.1 b).2.1) ∧ (∀ k, k < q.2.2 → kxR ci k = true) ∧ (∀ k, k < q.2.2 → xfin ci k = (q.2.1 k).2.2.2) ∧ (∀ k, k < q.2.2 → (q.2.1 k).1 = xcn ci) ∧ (∀ k, k < q.2.2 → kxD ci k = true) ∧ (xDf.getD ci []).length = q.2.2 ∧ ci < 8
set_option maxRecDepth 100000 in
theorem kx_ok : ∀ (ci : Nat) (q : vw_C), vwCl[ci]? = some q → kxOK ci q
  | 0, q, h => by cases h; exact ⟨inlX0, tyX0_ok, nmX0, by decide +kernel, by decide +kernel, by decide +kernel, by decide +kernel, rfl, by decide⟩
  | 1, q, h => by cases h; exact ⟨inlX1, tyX1_ok, nmX1, by decide +kernel, by decide +kernel, by decide +kernel, by decide +kernel, rfl, by decide⟩
  | 2, q, h => by cases h; exact ⟨inlX2, tyX2_ok, nmX2, by decide +kernel, by decide +kernel, by decide +kernel, by decide +kernel, rfl, by decide⟩
  | 3, q, h => by cases h; exact ⟨inlX3, tyX3_ok, nmX3, by decide +kernel, by decide +kernel, by decide +kernel, by decide +kernel, rfl, by decide⟩
  | 4, q, h => by cases h; exact ⟨inlX4, tyX4_ok, nmX4, by decide +kernel, by decide +kernel, by decide +kernel, by decide +kernel, rfl, by decide⟩
  | 5, q, h => by cases h; exact ⟨inlX5, tyX5_ok, nmX5, by decide +kernel, by decide +kernel, by decide +kernel, by decide +kernel, rfl, by decide⟩
  | 6, q, h => by cases h; exact ⟨inlX6, tyX6_ok, nmX6, by decide +kernel, by decide +kernel, by decide +kernel, by decide +kernel, rfl, by decide⟩
  | 7, q, h => by cases h; exact ⟨inlX7, tyX7_ok, nmX7, by decide +kernel, by decide +kernel, by decide +kernel, by decide +kernel, rfl, by decide⟩
  | n + 8, q, h => by simp [vwCl] at h
theorem xfits_ok {ad : Nat → Nat} {ρ : Nat → Int32} {fm : Value} {rg : xRG} (hf : xokF fm) {ci k : Nat} {v : Value} (hk : kxR ci k = true) (h : xfits rg (xty ci k) v = true) : narrow (kxT ci k) (xv ad ρ fm v) = xv ad ρ fm v ∧ fits (kxT ci k) (xv ad ρ fm v) = true := by
  unfold kxR at hk
  split at hk
  · next q =>
    rw [beq_iff_eq] at hk
    rw [hk] at h
    rcases xv_R (ad := ad) (ρ := ρ) hf (show xisR v = true from h) with e | ⟨a, e⟩ <;> rw [e] <;> simp_all [narrow, fits]
  · next q =>
    rw [beq_iff_eq] at hk
    rw [hk] at h
    rcases xv_R (ad := ad) (ρ := ρ) hf (show xisR v = true from h) with e | ⟨a, e⟩ <;> rw [e] <;> simp_all [narrow, fits]
  · next q =>
    rw [beq_iff_eq] at hk
    rw [hk] at h
    obtain ⟨x, e⟩ := xv_I (ad := ad) (ρ := ρ) (fm := fm) (show xisI v = true from h)
    rw [e, q]
    exact ⟨rfl, rfl⟩
  · next q =>
    rw [beq_iff_eq] at hk
    rw [hk] at h
    unfold xfits at h
    split at h
    · next heq => cases heq
    · next heq =>
      split at h
      · next x =>
        rw [Bool.or_eq_true, beq_iff_eq, beq_iff_eq] at h
        rw [q]
        rcases h with rfl | rfl
        · exact ⟨rfl, rfl⟩
        · exact ⟨rfl, rfl⟩
      · cases h
    · next h1 => cases h1
    · next h1 h2 h3 => exact absurd rfl h2
  · next q =>
    rw [beq_iff_eq] at hk
    rw [hk] at h
    obtain ⟨x, e⟩ := xv_L (ad := ad) (ρ := ρ) (fm := fm) (show xisL v = true from h)
    rw [e, q]
    exact ⟨rfl, rfl⟩
  · cases hk
theorem xencC_o {cA : Nat → ClassId} {V : Value → Value} {t : Nat} {fs : List Value} (h : t < 100) : xencC cA V (t, fs) = .inr (t, fs.map V) := by
  unfold xencC; rw [if_pos h]
theorem xencC_i {cA : Nat → ClassId} {V : Value → Value} {t : Nat} {xs : List Value} (h : 100 ≤ t) (h2 : t < 102) : xencC cA V (t, xs) = .inl (cA t, xs.length, .inl (fun j => xI (V (xs.getD j .null)))) := by
  unfold xencC; rw [if_neg (by simp; omega), if_pos (by simpa using h2)]
theorem xencC_q {cA : Nat → ClassId} {V : Value → Value} {t : Nat} {xs : List Value} (h : 102 ≤ t) : xencC cA V (t, xs) = .inl (cA t, xs.length, .inr (.inr (.inr (.inr (fun j => xR (V (xs.getD j .null))))))) := by
  unfold xencC; rw [if_neg (by simp; omega), if_neg (by simp; omega)]
theorem xvpin {x : Int32} {n : Nat} (h : ¬ x.toInt < 0) (h2 : x.toInt.toNat < n) : vp_in x n := vp_in_iff.mpr ⟨by omega, by omega⟩
theorem xtn (x : Int32) : x.toNatClampNeg = x.toInt.toNat := rfl
theorem xgetD {α : Type} {l : List α} {i : Nat} {v d : α} (h : l[i]? = some v) : l.getD i d = v := by
  rw [List.getD_eq_getElem?_getD, h]; rfl
theorem xgetD_set {α : Type} (l : List α) (i j : Nat) (v d : α) (h : i < l.length) : (l.set i v).getD j d = if j = i then v else l.getD j d := by
  rw [List.getD_eq_getElem?_getD, List.getD_eq_getElem?_getD]
  by_cases e : j = i
  · subst e; rw [if_pos rfl, List.getElem?_set_self h]; rfl
  · rw [if_neg e, List.getElem?_set_ne (Ne.symm e)]
theorem xstr_ix (b : Nat) (h1 : xB + 10 ≤ b) (h2 : b < xB + 23) : ∃ i, i < 13 ∧ b = xB + 10 + i := ⟨b - (xB + 10), by omega, by omega⟩
theorem xadd_sub (b : Nat) (h : ¬ b < xB) : xB + (b - xB) = b := by omega
section XHEAP
variable {p : Program} {l : Launch} {e : Env} {R : Room} {s : State} {m : MethodId} {args : Array Value} {below : List Frame} {meth : Method} {c : Code} {D : va_G} {cA : Nat → ClassId} {ad : Nat → Nat} {ρ : Nat → Int32} {fm : Value} {A : Nat → Prop} {n0 : Nat} {mi : xMI} {Q : State → Prop} {L : xLf → Prop}
variable {pc : Nat} {lo : List (Option Value)} {st : List Value} {C : List xCel} {rg : xRG} {uc us : Nat}
theorem z_get (hE : xEnv p l e R s m args below meth c D cA ad fm A n0 mi) {idx : Nat} (hdg : decode mi.2.1 pc = .ok (.getfield idx, 3)) (h : xGood (xRn p l e R s m args below meth c D cA ad ρ fm A mi.2.2.2.2.1 n0 mi.2.2.2.2.2.2.2.1 mi.2.2.2.2.2.2.2.2.1 Q) L (xget pc lo st C rg uc us mi.2.2.1 idx)) : xRn p l e R s m args below meth c D cA ad ρ fm A mi.2.2.2.2.1 n0 mi.2.2.2.2.2.2.2.1 mi.2.2.2.2.2.2.2.2.1 Q (pc, lo, st, C, rg, uc, us) := by
  obtain ⟨hx, hb, hml, hown, hts, hK, hX, -⟩ := hE
  unfold xget at h
  split at h
  · next ci k hf =>
    have hfl := xfl_ok hf
    split at h
    · next a r =>
      split at h
      · next hci =>
        split at h
        · next ha =>
          have hlink : Cond.fieldLink (xcn mi.2.2.1) idx "java/lang/String" (if k = 0 then "value" else "coder") (if k = 0 then "[B" else "B") ∈ wsL_law := by
            rcases hfl with ⟨q, hq, -⟩ | ⟨-, hl⟩
            · have := (kx_ok _ _ hq).2.2.2.2.2.2.2.2
              simp only at this
              omega
            · exact hl
          obtain ⟨i, hi, rfl⟩ := xstr_ix a ha.1 ha.2
          obtain ⟨-, f1, f2, -⟩ := hX.2.2.1.1 i hi
          split at h
          · next hk =>
            rw [if_pos hk, if_pos hk] at hlink
            intro H locs ls hR hL hP hD hS hn
            refine vk_getf hx hb f2 hS hown (hts _ hlink) (fun _ q => q) hdg ?_
            have h2 := h H locs ls hR hL hP hD hS hn
            have e1 : xv ad ρ fm (.ref (xB + 10 + i + 20)) = .ref (ad (xB + 30 + i)) := by rw [xv]; congr 2; omega
            simp only [List.map_cons, e1] at h2
            exact h2
          · next hk =>
            rw [if_neg hk, if_neg hk] at hlink
            intro H locs ls hR hL hP hD hS hn
            exact vk_getf hx hb f1 hS hown (hts _ hlink) (fun _ q => q) hdg (h H locs ls hR hL hP hD hS hn)
        · exact absurd h id
      · next hci =>
        rw [xnth_eq] at h
        split at h
        · next tag fs hc =>
          split at h
          · next ht =>
            subst ht
            rw [xnth_eq] at h
            split at h
            · next v hv =>
              rcases hfl with ⟨q, hq, hk, hl⟩ | ⟨h200, -⟩
              · obtain ⟨o1, -, -, -, -, -, -, -, o9⟩ := kx_ok _ _ hq
                intro H locs ls hR hL hP hD hS hn
                have he := xenc_get (cA := cA) (V := xv ad ρ fm) (ad := ad) hc
                rw [xencC_o (by simp only at o9; omega)] at he
                exact va_get (D := D) (Ts := wsL_law) hx hb hts o1 hown hK hP a he (C := q.1) (T := q.2.1) (N := q.2.2) hq k hk (hts _ hl) (fun _ z => z) (v := xv ad ρ fm v) (by rw [List.getElem?_map, hv]; rfl) hdg (h H locs ls hR hL hP hD hS hn)
              · exact absurd h200 hci
            · exact absurd h id
          · exact absurd h id
        · exact absurd h id
    · exact absurd h id
  · exact absurd h id
theorem z_put (hE : xEnv p l e R s m args below meth c D cA ad fm A n0 mi) {idx : Nat} (hdg : decode mi.2.1 pc = .ok (.putfield idx, 3)) (h : xGood (xRn p l e R s m args below meth c D cA ad ρ fm A mi.2.2.2.2.1 n0 mi.2.2.2.2.2.2.2.1 mi.2.2.2.2.2.2.2.2.1 Q) L (xput pc lo st C rg uc us mi.2.2.2.2.2.2.1 mi.2.2.1 idx)) : xRn p l e R s m args below meth c D cA ad ρ fm A mi.2.2.2.2.1 n0 mi.2.2.2.2.2.2.2.1 mi.2.2.2.2.2.2.2.2.1 Q (pc, lo, st, C, rg, uc, us) := by
  have hF := z_F hE
  obtain ⟨hx, hb, hml, hown, hts, hK, hX, -, -, hinit, -⟩ := hE
  unfold xput at h
  split at h
  · next ci k hf =>
    have hfl := xfl_ok hf
    split at h
    · next v a r =>
      rw [xnth_eq] at h
      split at h
      · next tag fs hc =>
        split at h
        · next ht =>
          obtain ⟨rfl, ht2, ht3⟩ := ht
          split at h
          · next hfit =>
            split at h
            · next hfin =>
              rw [xset_eq, xset_eq] at h
              rcases hfl with ⟨q, hq, hk, hl⟩ | ⟨h200, -⟩
              · obtain ⟨o1, o2, o3, o4, o5, o6, o7, o8, o9⟩ := kx_ok _ _ hq
                obtain ⟨f1, f2⟩ := xfits_ok (ad := ad) (ρ := ρ) hF (o4 k hk) hfit
                intro H locs ls hR hL hP hD hS hn
                have he := xenc_get (cA := cA) (V := xv ad ρ fm) (ad := ad) hc
                rw [xencC_o ht2] at he
                have eset : (xenc cA (xv ad ρ fm) ad C).set a (ad a, .inr (tag, (fs.map (xv ad ρ fm)).set k (xv ad ρ fm v))) = xenc cA (xv ad ρ fm) ad (C.set a (tag, fs.set k v)) := by
                  rw [xenc_set, xencC_o ht2, List.map_set]
                have hlen : (C.set a (tag, fs.set k v)).length = n0 + uc ∧ uc ≤ mi.2.2.2.2.2.2.2.1 ∧ us ≤ mi.2.2.2.2.2.2.2.2.1 ∧ n0 + uc ≤ xB := ⟨by rw [List.length_set]; exact hn.1, hn.2⟩
                cases hff : (q.2.1 k).2.2.2 with
                | false =>
                  refine va_put (D := D) (Ts := wsL_law) hx hb hts o1 (kxT tag) o2 o3 hown hK hP hD hS a he (C := q.1) (T := q.2.1) (N := q.2.2) hq k hk (hts _ hl) (fun _ z => z) hff (o2 k hk) f1 f2 (by rw [List.length_map]; exact ht3) hdg (fun H1 locs1 hP1 hD1 hS1 => ?_)
                  rw [eset] at hP1 hD1
                  exact h H1 locs1 ls hR hL hP1 hD1 hS1 hlen
                | true =>
                  have hq2 : mi.2.2.2.2.2.2.1 = 2 ∧ mi.2.2.1 = tag := by
                    rcases hfin with z | z
                    · rw [o5 k hk, hff] at z; cases z
                    · exact z
                  refine va_putF (D := D) (Ts := wsL_law) hx hb hts o1 (kxT tag) o2 o3 hown hK hP hD hS a he (C := q.1) (T := q.2.1) (N := q.2.2) hq k hk (hts _ hl) (fun _ z => z) hff (hinit hq2.1) (by rw [o6 k hk, hq2.2]) (o2 k hk) f1 f2 (by rw [List.length_map]; exact ht3) hdg (fun H1 locs1 hP1 hD1 hS1 => ?_)
                  rw [eset] at hP1 hD1
                  exact h H1 locs1 ls hR hL hP1 hD1 hS1 hlen
              · simp only at h200; omega
            · exact absurd h id
          · exact absurd h id
        · exact absurd h id
      · exact absurd h id
    · exact absurd h id
  · exact absurd h id
theorem z_stv : ∀ q ∈ xStat, ∀ ρ' : Nat → Int32, xv ad ρ' fm q.2.2.2 = xv ad (fun _ => 0) fm q.2.2.2 := by
  intro q hq ρ'
  simp only [xStat, List.mem_cons, List.not_mem_nil, or_false] at hq
  rcases hq with rfl | rfl | rfl | rfl | rfl <;> rfl
theorem z_gets (hE : xEnv p l e R s m args below meth c D cA ad fm A n0 mi) {idx : Nat} (hdg : decode mi.2.1 pc = .ok (.getstatic idx, 3)) (h : xGood (xRn p l e R s m args below meth c D cA ad ρ fm A mi.2.2.2.2.1 n0 mi.2.2.2.2.2.2.2.1 mi.2.2.2.2.2.2.2.2.1 Q) L (xgets pc lo st C rg uc us mi.2.2.1 idx)) : xRn p l e R s m args below meth c D cA ad ρ fm A mi.2.2.2.2.1 n0 mi.2.2.2.2.2.2.2.1 mi.2.2.2.2.2.2.2.2.1 Q (pc, lo, st, C, rg, uc, us) := by
  obtain ⟨hx, hb, hml, hown, hts, hK, hX, -⟩ := hE
  unfold xgets at h
  split at h
  · next k hk =>
    rw [xnth_eq] at h
    split at h
    · next q hq =>
      have hm := List.mem_of_getElem? hq
      have hl := xgs_ok hk q hq
      intro H locs ls hR hL hP hD hS hn
      have hZ := hX.1 q hm
      rw [← z_stv (ad := ad) (fm := fm) q hm ρ] at hZ
      exact va_gets hx hb hZ hS hown (hts _ hl) (fun _ z => z) hdg (h H locs ls hR hL hP hD hS hn)
    · exact absurd h id
  · exact absurd h id
theorem z_ald {tag : Nat} {ok : Value → Bool} (row : ∀ (x : Int32) (a : Nat) (xs : List Value) (v : Value), xrow C tag a = some xs → xs[x.toInt.toNat]? = some v → ok v = true → ¬ x.toInt < 0 → ∀ (H : Heap) (locs : List Loc) (ls : Array Slot) (rest : List Value), va_P D vwCl (xenc cA (xv ad ρ fm) ad C) H → va_S A s.heap H locs → W p l e R s m args below meth c H locs uc us Q (F0 m (pc + 1) ls (xv ad ρ fm v :: rest)) → W p l e R s m args below meth c H locs uc us Q (F0 m pc ls (.int x :: .ref (ad a) :: rest))) (h : xGood (xRn p l e R s m args below meth c D cA ad ρ fm A mi.2.2.2.2.1 n0 mi.2.2.2.2.2.2.2.1 mi.2.2.2.2.2.2.2.2.1 Q) L (xald pc lo st C rg uc us tag ok)) : xRn p l e R s m args below meth c D cA ad ρ fm A mi.2.2.2.2.1 n0 mi.2.2.2.2.2.2.2.1 mi.2.2.2.2.2.2.2.2.1 Q (pc, lo, st, C, rg, uc, us) := by
  unfold xald at h
  split at h
  · next i a r =>
    split at h
    · next x hx =>
      split at h
      · exact absurd h id
      · next h0 =>
        split at h
        · next xs hxs =>
          rw [xnth_eq] at h
          split at h
          · next v hv =>
            split at h
            · next ho =>
              intro H locs ls hR hL hP hD hS hn
              have e1 := xci_ok (ad := ad) (fm := fm) hR hx
              have h2 := h H locs ls hR hL hP hD hS hn
              simp only [List.map_cons, e1]
              exact row x a xs v hxs hv ho h0 H locs ls _ hP hS h2
            · exact absurd h id
          · exact absurd h id
        · exact absurd h id
    · exact z_fork (fun hR => xcov_cs hR _) h
  · exact absurd h id
theorem z_ald' {i : Value} {a : Nat} {r : List Value} {tag : Nat} {ok : Value → Bool} (row : ∀ (x : Int32) (xs : List Value) (v : Value), xrow C tag a = some xs → xs[x.toInt.toNat]? = some v → ok v = true → ¬ x.toInt < 0 → ∀ (H : Heap) (locs : List Loc) (ls : Array Slot) (rest : List Value), va_P D vwCl (xenc cA (xv ad ρ fm) ad C) H → va_S A s.heap H locs → W p l e R s m args below meth c H locs uc us Q (F0 m (pc + 1) ls (xv ad ρ fm v :: rest)) → W p l e R s m args below meth c H locs uc us Q (F0 m pc ls (.int x :: .ref (ad a) :: rest))) (h : xGood (xRn p l e R s m args below meth c D cA ad ρ fm A mi.2.2.2.2.1 n0 mi.2.2.2.2.2.2.2.1 mi.2.2.2.2.2.2.2.2.1 Q) L (xald pc lo (i :: .ref a :: r) C rg uc us tag ok)) : xRn p l e R s m args below meth c D cA ad ρ fm A mi.2.2.2.2.1 n0 mi.2.2.2.2.2.2.2.1 mi.2.2.2.2.2.2.2.2.1 Q (pc, lo, i :: .ref a :: r, C, rg, uc, us) := by
  dsimp only [xald] at h
  · split at h
    · next x hx =>
      split at h
      · exact absurd h id
      · next h0 =>
        split at h
        · next xs hxs =>
          rw [xnth_eq] at h
          split at h
          · next v hv =>
            split at h
            · next ho =>
              intro H locs ls hR hL hP hD hS hn
              have e1 := xci_ok (ad := ad) (fm := fm) hR hx
              have h2 := h H locs ls hR hL hP hD hS hn
              simp only [List.map_cons, e1]
              exact row x xs v hxs hv ho h0 H locs ls _ hP hS h2
            · exact absurd h id
          · exact absurd h id
        · exact absurd h id
    · exact z_fork (fun hR => xcov_cs hR _) h
theorem z_row {tag a : Nat} {xs : List Value} (ha : a < xB) (h : xrow C tag a = some xs) : C[a]? = some (tag, xs) := by
  unfold xrow at h
  rw [if_pos ha, xnth_eq] at h
  split at h
  · next t ys hc =>
    split at h
    · next ht => cases h; rw [hc, ht]
    · cases h
  · cases h
theorem z_iaload (hE : xEnv p l e R s m args below meth c D cA ad fm A n0 mi) (hdg : decode mi.2.1 pc = .ok (.iaload, 1)) (h : xGood (xRn p l e R s m args below meth c D cA ad ρ fm A mi.2.2.2.2.1 n0 mi.2.2.2.2.2.2.2.1 mi.2.2.2.2.2.2.2.2.1 Q) L (xald pc lo st C rg uc us 100 xisI)) : xRn p l e R s m args below meth c D cA ad ρ fm A mi.2.2.2.2.1 n0 mi.2.2.2.2.2.2.2.1 mi.2.2.2.2.2.2.2.2.1 Q (pc, lo, st, C, rg, uc, us) := by
  obtain ⟨hx, hb, hml, hown, hts, hK, hX, -⟩ := hE
  refine z_ald (fun x a xs v hr hv ho h0 H locs ls rest hP hS k => ?_) h
  have hlt : x.toInt.toNat < xs.length := (List.getElem?_eq_some_iff.mp hv).1
  obtain ⟨y, ey⟩ := xv_I (ad := ad) (ρ := ρ) (fm := fm) ho
  by_cases ha : a < xB
  · have he := xenc_get (cA := cA) (V := xv ad ρ fm) (ad := ad) (z_row ha hr)
    rw [xencC_i (Nat.le_refl _) (by decide)] at he
    refine va_iald hx hb hK hP a 0 he rfl (xvpin h0 hlt) hdg ?_
    rw [xtn, xgetD hv, ey]
    rw [ey] at k
    exact k
  · unfold xrow at hr
    rw [if_neg ha, if_pos rfl, xnth_eq] at hr
    split at hr
    · next tl htl =>
      split at hr
      · next h3 =>
        cases hr
        have hT := hX.2.1 _ _ htl
        rw [xadd_sub a ha] at hT
        rw [List.length_map] at hlt
        refine va_ti hx hb hT hS (xvpin h0 hlt) rfl hdg ?_
        rw [List.getElem?_map] at hv
        cases hq : tl[x.toInt.toNat]? with
        | none => rw [hq] at hv; cases hv
        | some z =>
          rw [hq] at hv
          cases hv
          rw [xtn, xgetD hq]
          exact k
      · cases hr
    · cases hr
theorem z_baload (hE : xEnv p l e R s m args below meth c D cA ad fm A n0 mi) (hdg : decode mi.2.1 pc = .ok (.baload, 1)) (h : xGood (xRn p l e R s m args below meth c D cA ad ρ fm A mi.2.2.2.2.1 n0 mi.2.2.2.2.2.2.2.1 mi.2.2.2.2.2.2.2.2.1 Q) L (xbald pc lo st C rg uc us)) : xRn p l e R s m args below meth c D cA ad ρ fm A mi.2.2.2.2.1 n0 mi.2.2.2.2.2.2.2.1 mi.2.2.2.2.2.2.2.2.1 Q (pc, lo, st, C, rg, uc, us) := by
  obtain ⟨hx, hb, hml, hown, hts, hK, hX, -⟩ := hE
  have r1 : ∀ (x : Int32) (a : Nat) (xs : List Value) (v : Value), xrow C 101 a = some xs → xs[x.toInt.toNat]? = some v → xisI v = true → ¬ x.toInt < 0 → ∀ (H : Heap) (locs : List Loc) (ls : Array Slot) (rest : List Value), va_P D vwCl (xenc cA (xv ad ρ fm) ad C) H → va_S A s.heap H locs → W p l e R s m args below meth c H locs uc us Q (F0 m (pc + 1) ls (xv ad ρ fm v :: rest)) → W p l e R s m args below meth c H locs uc us Q (F0 m pc ls (.int x :: .ref (ad a) :: rest)) := by
    intro x a xs v hr hv ho h0 H locs ls rest hP hS k
    have hlt : x.toInt.toNat < xs.length := (List.getElem?_eq_some_iff.mp hv).1
    obtain ⟨y, ey⟩ := xv_I (ad := ad) (ρ := ρ) (fm := fm) ho
    by_cases ha : a < xB
    · have he := xenc_get (cA := cA) (V := xv ad ρ fm) (ad := ad) (z_row ha hr)
      rw [xencC_i (by decide) (by decide)] at he
      refine va_zald hx hb hK hP a 1 he rfl (xvpin h0 hlt) hdg ?_
      rw [xtn, xgetD hv, ey]
      rw [ey] at k
      exact k
    · unfold xrow at hr
      rw [if_neg ha, if_neg (by decide), if_neg (by decide)] at hr
      cases hr
  have r2 : ∀ (x : Int32) (a : Nat) (xs : List Value) (v : Value), ¬ a < xB → xrow C 105 a = some xs → xs[x.toInt.toNat]? = some v → xisI v = true → ¬ x.toInt < 0 → ∀ (H : Heap) (locs : List Loc) (ls : Array Slot) (rest : List Value), va_P D vwCl (xenc cA (xv ad ρ fm) ad C) H → va_S A s.heap H locs → W p l e R s m args below meth c H locs uc us Q (F0 m (pc + 1) ls (xv ad ρ fm v :: rest)) → W p l e R s m args below meth c H locs uc us Q (F0 m pc ls (.int x :: .ref (ad a) :: rest)) := by
    intro x a xs v ha hr hv ho h0 H locs ls rest hP hS k
    have hlt : x.toInt.toNat < xs.length := (List.getElem?_eq_some_iff.mp hv).1
    · unfold xrow at hr
      rw [if_neg ha, if_neg (by decide), if_pos rfl] at hr
      split at hr
      · next h30 =>
        rw [xnth_eq] at hr
        split at hr
        · next tl htl =>
          cases hr
          obtain ⟨i, rfl⟩ : ∃ i : Nat, i + (xB + 30) = a := ⟨_, Nat.sub_add_cancel h30⟩
          rw [Nat.add_sub_cancel] at htl
          have hi : i < 13 := (List.getElem?_eq_some_iff.mp htl).1
          obtain ⟨-, -, -, hT⟩ := hX.2.2.1.1 i hi
          have e1 : (xByt.map List.length).getD i 0 = tl.length := by
            rw [List.getD_eq_getElem?_getD, List.getElem?_map, htl]; rfl
          have e2 : xByt.getD i [] = tl := xgetD htl
          rw [e1, e2] at hT
          rw [List.length_map] at hlt
          rw [show i + (xB + 30) = xB + 30 + i from Nat.add_comm _ _]
          refine va_tb hx hb hT hS (xvpin h0 hlt) rfl hdg ?_
          rw [List.getElem?_map] at hv
          cases hq : tl[x.toInt.toNat]? with
          | none => rw [hq] at hv; cases hv
          | some z =>
            rw [hq] at hv
            cases hv
            rw [xtn, xgetD hq]
            exact k
        · cases hr
      · cases hr
  unfold xbald at h
  split at h
  · next i a r =>
    split at h
    · exact z_ald r1 h
    · next ha =>
      exact z_ald' (fun x xs v hr hv ho h0 H locs ls rest hP hS k => r2 x a xs v ha hr hv ho h0 H locs ls rest hP hS k) h
  · exact absurd h id
theorem z_aald (hE : xEnv p l e R s m args below meth c D cA ad fm A n0 mi) {tg : Nat} (ht : 102 ≤ tg) (ht2 : tg < 105) (hdg : decode mi.2.1 pc = .ok (.aaload, 1)) {i : Value} {a : Nat} {r : List Value} (hab : a < xB) (h : xGood (xRn p l e R s m args below meth c D cA ad ρ fm A mi.2.2.2.2.1 n0 mi.2.2.2.2.2.2.2.1 mi.2.2.2.2.2.2.2.2.1 Q) L (xald pc lo (i :: .ref a :: r) C rg uc us tg xisR)) : xRn p l e R s m args below meth c D cA ad ρ fm A mi.2.2.2.2.1 n0 mi.2.2.2.2.2.2.2.1 mi.2.2.2.2.2.2.2.2.1 Q (pc, lo, i :: .ref a :: r, C, rg, uc, us) := by
  have hF := z_F hE
  obtain ⟨hx, hb, hml, hown, hts, hK, hX, -⟩ := hE
  refine z_ald' (fun x xs v hr hv ho h0 H locs ls rest hP hS k => ?_) h
  have hlt : x.toInt.toNat < xs.length := (List.getElem?_eq_some_iff.mp hv).1
  have he := xenc_get (cA := cA) (V := xv ad ρ fm) (ad := ad) (z_row hab hr)
  rw [xencC_q ht] at he
  obtain ⟨k0, ty, hk0, hty⟩ : ∃ (k0 : Nat) (ty : FieldType), (xtys cA)[k0]? = some (cA tg, ty) ∧ ty.isReference = true := by
    rcases (by omega : tg = 102 ∨ tg = 103 ∨ tg = 104) with rfl | rfl | rfl
    · exact ⟨2, _, rfl, rfl⟩
    · exact ⟨3, _, rfl, rfl⟩
    · exact ⟨4, _, rfl, rfl⟩
  have hval : va_rf (xR (xv ad ρ fm (xs.getD x.toInt.toNat .null))) = xv ad ρ fm v := by
    rw [xgetD hv]
    rcases xv_R (ad := ad) (ρ := ρ) hF ho with e1 | ⟨q, e1⟩ <;> rw [e1] <;> rfl
  refine W.aald (v := xv ad ρ fm v) (ty := ty) hx hb (hP a _ he) ((hK.2 k0 _ hk0).1 xs.length (fun j => va_rf (xR (xv ad ρ fm (xs.getD j .null))))) hty (fun q => by cases q) (by show ¬ (x < 0 ∨ (arrV _ _ _).slots.size ≤ _); rw [arrV_size]; exact xvpin h0 hlt) (by show (arrV _ _ _).slots[_]? = _; rw [arrV_read _ _ (by rw [xtn]; exact hlt)]; exact congrArg some hval) rfl rfl hdg k
theorem z_aaload (hE : xEnv p l e R s m args below meth c D cA ad fm A n0 mi) (hdg : decode mi.2.1 pc = .ok (.aaload, 1)) (h : xGood (xRn p l e R s m args below meth c D cA ad ρ fm A mi.2.2.2.2.1 n0 mi.2.2.2.2.2.2.2.1 mi.2.2.2.2.2.2.2.2.1 Q) L (xaldq pc lo st C rg uc us)) : xRn p l e R s m args below meth c D cA ad ρ fm A mi.2.2.2.2.1 n0 mi.2.2.2.2.2.2.2.1 mi.2.2.2.2.2.2.2.2.1 Q (pc, lo, st, C, rg, uc, us) := by
  unfold xaldq at h
  split at h
  · next i a r =>
    rw [xnth_eq] at h
    split at h
    · next t xs hc =>
      split at h
      · next ht =>
        by_cases hab : a < xB
        · exact z_aald hE ht.1 ht.2 hdg hab h
        · refine z_ald' (fun x xs v hr hv ho h0 H locs ls rest hP hS k => ?_) h
          unfold xrow at hr
          rw [if_neg hab, if_neg (by omega), if_neg (by omega)] at hr
          cases hr
      · exact absurd h id
    · exact absurd h id
  · exact absurd h id
-- what is laid into a row
theorem z_ast {tag : Nat} (row : ∀ (x : Int32) (a : Nat) (xs : List Value) (v w : Value), C[a]? = some (tag, xs) → x.toInt.toNat < xs.length → ¬ x.toInt < 0 → xokR ρ rg → xtak C rg tag v = some w → ∀ (H : Heap) (locs : List Loc) (ls : Array Slot) (rest : List Value), va_P D vwCl (xenc cA (xv ad ρ fm) ad C) H → va_D A (xenc cA (xv ad ρ fm) ad C) → va_S A s.heap H locs → (∀ (H1 : Heap) (locs1 : List Loc), va_P D vwCl (xenc cA (xv ad ρ fm) ad (C.set a (tag, xs.set x.toInt.toNat w))) H1 → va_D A (xenc cA (xv ad ρ fm) ad (C.set a (tag, xs.set x.toInt.toNat w))) → va_S A s.heap H1 locs1 → W p l e R s m args below meth c H1 locs1 uc us Q (F0 m (pc + 1) ls rest)) → W p l e R s m args below meth c H locs uc us Q (F0 m pc ls (xv ad ρ fm v :: .int x :: .ref (ad a) :: rest))) (h : xGood (xRn p l e R s m args below meth c D cA ad ρ fm A mi.2.2.2.2.1 n0 mi.2.2.2.2.2.2.2.1 mi.2.2.2.2.2.2.2.2.1 Q) L (xast pc lo st C rg uc us tag)) : xRn p l e R s m args below meth c D cA ad ρ fm A mi.2.2.2.2.1 n0 mi.2.2.2.2.2.2.2.1 mi.2.2.2.2.2.2.2.2.1 Q (pc, lo, st, C, rg, uc, us) := by
  unfold xast at h
  split at h
  · next v i a r =>
    split at h
    · next x hx =>
      split at h
      · exact absurd h id
      · next h0 =>
        rw [xnth_eq] at h
        split at h
        · next t xs hc =>
          split at h
          · next ht =>
            obtain ⟨rfl, hlt⟩ := ht
            split at h
            · next w hw =>
              rw [xset_eq, xset_eq] at h
              intro H locs ls hR hL hP hD hS hn
              have e1 := xci_ok (ad := ad) (fm := fm) hR hx
              simp only [List.map_cons, e1]
              exact row x a xs v w hc hlt h0 hR hw H locs ls _ hP hD hS (fun H1 locs1 hP1 hD1 hS1 => h H1 locs1 ls hR hL hP1 hD1 hS1 ⟨by rw [List.length_set]; exact hn.1, hn.2⟩)
            · exact z_fork (fun hR => xcov_cs hR _) h
          · exact absurd h id
        · exact absurd h id
    · exact z_fork (fun hR => xcov_cs hR _) h
  · exact absurd h id
theorem z_iastore (hE : xEnv p l e R s m args below meth c D cA ad fm A n0 mi) (hdg : decode mi.2.1 pc = .ok (.iastore, 1)) (h : xGood (xRn p l e R s m args below meth c D cA ad ρ fm A mi.2.2.2.2.1 n0 mi.2.2.2.2.2.2.2.1 mi.2.2.2.2.2.2.2.2.1 Q) L (xast pc lo st C rg uc us 100)) : xRn p l e R s m args below meth c D cA ad ρ fm A mi.2.2.2.2.1 n0 mi.2.2.2.2.2.2.2.1 mi.2.2.2.2.2.2.2.2.1 Q (pc, lo, st, C, rg, uc, us) := by
  obtain ⟨hx, hb, hml, hown, hts, hK, hX, -⟩ := hE
  refine z_ast (fun x a xs v w hc hlt h0 hR hw H locs ls rest hP hD hS kk => ?_) h
  have he := xenc_get (cA := cA) (V := xv ad ρ fm) (ad := ad) hc
  rw [xencC_i (Nat.le_refl _) (by decide)] at he
  unfold xtak at hw
  rw [if_pos rfl] at hw
  split at hw
  · next ho =>
    cases hw
    obtain ⟨y, ey⟩ := xv_I (ad := ad) (ρ := ρ) (fm := fm) ho
    rw [ey]
    refine va_iast hx hb hK hP hD hS a 0 he rfl (xvpin h0 hlt) hdg (fun H1 locs1 hP1 hD1 hS1 => ?_)
    have eset : (xenc cA (xv ad ρ fm) ad C).set a (ad a, .inl (cA 100, xs.length, .inl (upd (fun j => xI (xv ad ρ fm (xs.getD j .null))) x.toNatClampNeg y))) = xenc cA (xv ad ρ fm) ad (C.set a (100, xs.set x.toInt.toNat v)) := by
      rw [xenc_set, xencC_i (Nat.le_refl _) (by decide), List.length_set]
      congr 6
      funext j
      rw [xgetD_set _ _ _ _ _ hlt]
      unfold upd
      rw [xtn]
      split
      · rw [ey]; rfl
      · rfl
    rw [eset] at hP1 hD1
    exact kk H1 locs1 hP1 hD1 hS1
  · cases hw
theorem z_bastore (hE : xEnv p l e R s m args below meth c D cA ad fm A n0 mi) (hdg : decode mi.2.1 pc = .ok (.bastore, 1)) (h : xGood (xRn p l e R s m args below meth c D cA ad ρ fm A mi.2.2.2.2.1 n0 mi.2.2.2.2.2.2.2.1 mi.2.2.2.2.2.2.2.2.1 Q) L (xast pc lo st C rg uc us 101)) : xRn p l e R s m args below meth c D cA ad ρ fm A mi.2.2.2.2.1 n0 mi.2.2.2.2.2.2.2.1 mi.2.2.2.2.2.2.2.2.1 Q (pc, lo, st, C, rg, uc, us) := by
  obtain ⟨hx, hb, hml, hown, hts, hK, hX, -⟩ := hE
  refine z_ast (fun x a xs v w hc hlt h0 hR hw H locs ls rest hP hD hS kk => ?_) h
  have he := xenc_get (cA := cA) (V := xv ad ρ fm) (ad := ad) hc
  rw [xencC_i (by decide) (by decide)] at he
  unfold xtak at hw
  rw [if_neg (by decide), if_pos rfl] at hw
  split at hw
  · next y hy =>
    cases hw
    rw [xci_ok (ad := ad) (fm := fm) hR hy]
    refine va_zast hx hb hK hP hD hS a 1 he rfl (xvpin h0 hlt) hdg (fun H1 locs1 hP1 hD1 hS1 => ?_)
    have eset : (xenc cA (xv ad ρ fm) ad C).set a (ad a, .inl (cA 101, xs.length, .inl (upd (fun j => xI (xv ad ρ fm (xs.getD j .null))) x.toNatClampNeg (vp_nar .boolean y)))) = xenc cA (xv ad ρ fm) ad (C.set a (101, xs.set x.toInt.toNat (.int (vp_nar .boolean y)))) := by
      rw [xenc_set, xencC_i (by decide) (by decide), List.length_set]
      congr 6
      funext j
      rw [xgetD_set _ _ _ _ _ hlt]
      unfold upd
      rw [xtn]
      split
      · rfl
      · rfl
    rw [eset] at hP1 hD1
    exact kk H1 locs1 hP1 hD1 hS1
  · cases hw
theorem z_aast (hE : xEnv p l e R s m args below meth c D cA ad fm A n0 mi) {tag : Nat} (htag : tag = 102 ∨ tag = 103) (hdg : decode mi.2.1 pc = .ok (.aastore, 1)) (h : xGood (xRn p l e R s m args below meth c D cA ad ρ fm A mi.2.2.2.2.1 n0 mi.2.2.2.2.2.2.2.1 mi.2.2.2.2.2.2.2.2.1 Q) L (xast pc lo st C rg uc us tag)) : xRn p l e R s m args below meth c D cA ad ρ fm A mi.2.2.2.2.1 n0 mi.2.2.2.2.2.2.2.1 mi.2.2.2.2.2.2.2.2.1 Q (pc, lo, st, C, rg, uc, us) := by
  obtain ⟨hx, hb, hml, hown, hts, hK, hX, -⟩ := hE
  refine z_ast (fun x a xs v w hc hlt h0 hR hw H locs ls rest hP hD hS kk => ?_) h
  have he := xenc_get (cA := cA) (V := xv ad ρ fm) (ad := ad) hc
  rw [xencC_q (by omega)] at he
  unfold xtak at hw
  rw [if_neg (by omega), if_neg (by omega)] at hw
  split at hw
  · next b =>
    rw [xnth_eq] at hw
    split at hw
    · next t ys hcb =>
      split at hw
      · next hq =>
        cases hw
        have hb2 := xenc_get (cA := cA) (V := xv ad ρ fm) (ad := ad) hcb
        rw [xencC_o (by omega)] at hb2
        obtain ⟨k0, r, hk0, hr⟩ : ∃ (k0 : Nat) (r : vw_C), (xtys cA)[k0]? = some (cA tag, .object r.1) ∧ vwCl[t]? = some r := by
          rcases hq with ⟨rfl, rfl⟩ | ⟨rfl, rfl⟩
          · exact ⟨2, (RX5, TX5, 5), rfl, rfl⟩
          · exact ⟨3, (RX2, TX2, 3), rfl, rfl⟩
        refine va_astq hx hb hK hP hD hS a k0 b t he hk0 hb2 hr (xvpin h0 hlt) hdg (fun H1 locs1 hP1 hD1 hS1 => ?_)
        have eset : (xenc cA (xv ad ρ fm) ad C).set a (ad a, .inl (cA tag, xs.length, .inr (.inr (.inr (.inr (va_up (fun j => xR (xv ad ρ fm (xs.getD j .null))) x.toNatClampNeg (some (ad b)))))))) = xenc cA (xv ad ρ fm) ad (C.set a (tag, xs.set x.toInt.toNat (.ref b))) := by
          rw [xenc_set, xencC_q (by omega), List.length_set]
          congr 9
          funext j
          rw [xgetD_set _ _ _ _ _ hlt]
          unfold va_up
          rw [xtn]
          split
          · rfl
          · rfl
        rw [eset] at hP1 hD1
        exact kk H1 locs1 hP1 hD1 hS1
      · cases hw
    · cases hw
  · cases hw
theorem z_aastore (hE : xEnv p l e R s m args below meth c D cA ad fm A n0 mi) (hdg : decode mi.2.1 pc = .ok (.aastore, 1)) (h : xGood (xRn p l e R s m args below meth c D cA ad ρ fm A mi.2.2.2.2.1 n0 mi.2.2.2.2.2.2.2.1 mi.2.2.2.2.2.2.2.2.1 Q) L (xastq pc lo st C rg uc us)) : xRn p l e R s m args below meth c D cA ad ρ fm A mi.2.2.2.2.1 n0 mi.2.2.2.2.2.2.2.1 mi.2.2.2.2.2.2.2.2.1 Q (pc, lo, st, C, rg, uc, us) := by
  unfold xastq at h
  split at h
  · split at h
    · split at h
      · exact z_aast hE (Or.inl rfl) hdg h
      · split at h
        · exact z_aast hE (Or.inr rfl) hdg h
        · exact absurd h id
    · exact absurd h id
  · exact absurd h id
theorem z_alen (hE : xEnv p l e R s m args below meth c D cA ad fm A n0 mi) (hdg : decode mi.2.1 pc = .ok (.arraylength, 1)) (h : xGood (xRn p l e R s m args below meth c D cA ad ρ fm A mi.2.2.2.2.1 n0 mi.2.2.2.2.2.2.2.1 mi.2.2.2.2.2.2.2.2.1 Q) L (xalen pc lo st C rg uc us)) : xRn p l e R s m args below meth c D cA ad ρ fm A mi.2.2.2.2.1 n0 mi.2.2.2.2.2.2.2.1 mi.2.2.2.2.2.2.2.2.1 Q (pc, lo, st, C, rg, uc, us) := by
  obtain ⟨hx, hb, hml, hown, hts, hK, hX, -⟩ := hE
  unfold xalen at h
  split at h
  · next a r =>
    split at h
    · rw [xnth_eq] at h
      split at h
      · next t xs hc =>
        split at h
        · next ht =>
          rw [xfI_eq] at h
          intro H locs ls hR hL hP hD hS hn
          have he := xenc_get (cA := cA) (V := xv ad ρ fm) (ad := ad) hc
          obtain ⟨k0, ty, hk0⟩ : ∃ (k0 : Nat) (ty : FieldType), (xtys cA)[k0]? = some (cA t, ty) := by
            rcases (by omega : t = 100 ∨ t = 101 ∨ t = 102 ∨ t = 103 ∨ t = 104) with rfl | rfl | rfl | rfl | rfl
            · exact ⟨0, _, rfl⟩
            · exact ⟨1, _, rfl⟩
            · exact ⟨2, _, rfl⟩
            · exact ⟨3, _, rfl⟩
            · exact ⟨4, _, rfl⟩
          by_cases hi : t < 102
          · rw [xencC_i ht.1 hi] at he
            exact va_alen hx hb hK hP a k0 he hk0 rfl hdg (h H locs ls hR hL hP hD hS hn)
          · rw [xencC_q (by omega)] at he
            exact va_alen hx hb hK hP a k0 he hk0 rfl hdg (h H locs ls hR hL hP hD hS hn)
        · exact absurd h id
      · exact absurd h id
    · split at h
      · next h30 =>
        rw [xnth_eq] at h
        split at h
        · next tl htl =>
          rw [xfI_eq] at h
          obtain ⟨i, rfl⟩ : ∃ i : Nat, i + (xB + 30) = a := ⟨_, Nat.sub_add_cancel h30⟩
          rw [Nat.add_sub_cancel] at htl
          have hi : i < 13 := (List.getElem?_eq_some_iff.mp htl).1
          obtain ⟨-, -, -, hT⟩ := hX.2.2.1.1 i hi
          have e1 : (xByt.map List.length).getD i 0 = tl.length := by
            rw [List.getD_eq_getElem?_getD, List.getElem?_map, htl]; rfl
          rw [e1] at hT
          have hT : va_T .byte (ad (i + (xB + 30))) tl.length (fun j => .int ((xByt.getD i []).getD j 0)) A s s.heap := by
            rw [Nat.add_comm i]; exact hT
          intro H locs ls hR hL hP hD hS hn
          exact va_tlen hx hb hT hS rfl hdg (h H locs ls hR hL hP hD hS hn)
        · exact absurd h id
      · exact absurd h id
  · exact absurd h id
end XHEAP
end
section
/-! what is made; what the JDK's own do -/
theorem xW_sz {p : Program} {l : Launch} {e : Env} {R : Room} {s : State} {m : MethodId} {args : Array Value} {below : List Frame} {meth : Method} {c : Code} {H : Heap} {locs : List Loc} {cells slots : Nat} {Q : State → Prop} {g : JFrame} (h : H.size ≤ s.heap.size + cells → W p l e R s m args below meth c H locs cells slots Q g) : W p l e R s m args below meth c H locs cells slots Q g := by
  intro T hT X
  refine h ?_ T hT X
  have := X.heapSize
  rw [hT] at this
  exact this
theorem xenc_len {cA : Nat → ClassId} {V : Value → Value} {ad : Nat → Nat} {C : List xCel} : (xenc cA V ad C).length = C.length := by
  unfold xenc; rw [List.length_mapIdx]
theorem x_pin {D : va_G} {cA : Nat → ClassId} {V : Value → Value} {ad : Nat → Nat} {A : Nat → Prop} {C : List xCel} {H1 : Heap} {n0 uc sz q : Nat} {z : va_E} (hAx : ∀ q, A q → sz ≤ q ∨ ∃ k, k < n0 ∧ q = ad k) (had : ∀ k, n0 ≤ k → k < xB → ad k = sz + (k - n0)) (hn : C.length = n0 + uc) (hB : C.length < xB) (hP : va_P D vwCl (xenc cA V ad C ++ [(q, z)]) H1) (hD : va_D A (xenc cA V ad C ++ [(q, z)])) (hsz : H1.size ≤ sz + (uc + 1)) : q = ad C.length := by
  have hg : (xenc cA V ad C ++ [(q, z)])[C.length]? = some (q, z) := by
    rw [List.getElem?_append_right (by rw [xenc_len]; exact Nat.le_refl _), xenc_len, Nat.sub_self]; rfl
  have old : ∀ k, k < C.length → q ≠ ad k := by
    intro k hk e
    have hk2 : (xenc cA V ad C ++ [(q, z)])[k]? = some (ad k, xencC cA V C[k]) := by
      rw [List.getElem?_append_left (by rw [xenc_len]; exact hk)]
      exact xenc_get (List.getElem?_eq_getElem hk)
    have := hD.1 k C.length _ _ hk2 hg e.symm
    omega
  have hlt : q < H1.size := (hP C.length _ hg).lt
  rcases hAx q (hD.2 C.length _ hg) with h | ⟨k, hk, e⟩
  · by_cases hi : q = sz + uc
    · rw [had C.length (by omega) hB, hi]; omega
    · exfalso
      refine old (n0 + (q - sz)) (by omega) ?_
      rw [had (n0 + (q - sz)) (by omega) (by omega)]
      omega
  · exact absurd e (old k (by omega))
theorem xdf_V {V : Value → Value} (hI : ∀ x, V (.int x) = .int x) (hN : V .null = .null) (hL : ∀ x, V (.long x) = .long x) : ∀ {ci : Nat} {fs : List Value}, xDf[ci]? = some fs → fs.map V = fs := by
  have hb : xDf.all (fun fs => fs.all fun v => match v with
    | .int _ => true
    | .null => true
    | .long _ => true
    | _ => false) = true := by decide
  intro ci fs h
  have h1 := List.all_eq_true.mp hb fs (List.mem_of_getElem? h)
  conv => rhs; rw [← List.map_id fs]
  apply List.map_congr_left
  intro v hv
  have h2 := List.all_eq_true.mp h1 v hv
  cases v <;> simp_all
theorem xls_all : ∀ p ∈ xlsA, ∀ e ∈ p.2, ∃ q, xStr[e.2]? = some q ∧ q.1 = p.1 ∧ q.2.1 = e.1 := by
  intro p hp e he
  simp only [xlsA, List.mem_cons, List.not_mem_nil, or_false] at hp
  rcases hp with rfl | rfl
  · simp only [List.mem_cons, List.not_mem_nil, or_false] at he
    subst he
    exact ⟨_, rfl, rfl, rfl⟩
  · simp only [List.mem_cons, List.not_mem_nil, or_false] at he
    rcases he with rfl | rfl | rfl | rfl | rfl | rfl | rfl | rfl | rfl | rfl | rfl | rfl <;> exact ⟨_, rfl, rfl, rfl⟩
section XMAKE
variable {p : Program} {l : Launch} {e : Env} {R : Room} {s : State} {m : MethodId} {args : Array Value} {below : List Frame} {meth : Method} {c : Code} {D : va_G} {cA : Nat → ClassId} {ad : Nat → Nat} {ρ : Nat → Int32} {fm : Value} {A : Nat → Prop} {n0 : Nat} {mi : xMI} {Q : State → Prop} {L : xLf → Prop}
variable {pc : Nat} {lo : List (Option Value)} {st : List Value} {C : List xCel} {rg : xRG} {uc us : Nat}
theorem z_new (hE : xEnv p l e R s m args below meth c D cA ad fm A n0 mi) {idx : Nat} (hdg : decode mi.2.1 pc = .ok (.new idx, 3)) (h : xGood (xRn p l e R s m args below meth c D cA ad ρ fm A mi.2.2.2.2.1 n0 mi.2.2.2.2.2.2.2.1 mi.2.2.2.2.2.2.2.2.1 Q) L (xnew pc lo st C rg uc us mi.2.2.2.2.2.2.2.1 mi.2.2.2.2.2.2.2.2.1 mi.2.2.1 idx)) : xRn p l e R s m args below meth c D cA ad ρ fm A mi.2.2.2.2.1 n0 mi.2.2.2.2.2.2.2.1 mi.2.2.2.2.2.2.2.2.1 Q (pc, lo, st, C, rg, uc, us) := by
  obtain ⟨hx, hb, hml, hown, hts, hK, hX, hret, hlk, hin, hroom, hrc, hrs, hF, hA, hAx, had⟩ := hE
  unfold xnew at h
  split at h
  · next ci hci =>
    rw [xnth_eq] at h
    split at h
    · next fs hfs =>
      split at h
      · next hq =>
        obtain ⟨q1, q2, q3, q4⟩ := hq
        rw [xfN_eq, xfN_eq] at h
        rcases xkl_ok hci with ⟨h104, -⟩ | ⟨q, hq, hcl, hinst, hini⟩
        · simp only at h104; omega
        · obtain ⟨o1, o2, o3, o4, o5, o6, o7, o8, o9⟩ := kx_ok _ _ hq
          have e8 : xDf.getD ci [] = fs := xgetD hfs
          simp only [e8] at o8
          have eV : fs.map (xv ad ρ fm) = fs := xdf_V (fun _ => rfl) rfl (fun _ => rfl) hfs
          intro H locs ls hR hL hP hD hS hn
          refine va_new (D := D) (Ts := wsL_law) (N := q.2.2) (ci := ci) (fs := fs) hx hb hts o1 (kxT ci) o2 hown (hts _ hcl) (hts _ hinst) (hts _ hini) hK hP hD hS hA hq (fun j hj => ?_) (by rw [hrc]; exact q1) (by rw [hrs, ← o8]; exact q2) hdg (fun qa H1 hP1 hD1 hS1 => xW_sz fun hsz => ?_)
          · have := of_decide_eq_true (o7 j hj)
            simp only [e8] at this
            exact this
          · have hpin := x_pin hAx had hn.1 q3 hP1 hD1 hsz
            subst hpin
            have e2 : xenc cA (xv ad ρ fm) ad C ++ [(ad C.length, .inr (ci, fs))] = xenc cA (xv ad ρ fm) ad (C ++ [(ci, fs)]) := by
              rw [xenc_push, xencC_o q4, eV]
            rw [e2] at hP1 hD1
            rw [← o8]
            exact h H1 locs ls hR hL hP1 hD1 hS1 ⟨by rw [List.length_append, hn.1]; simp; omega, q1, q2, by have h9 : C.length = n0 + uc := hn.1; show n0 + (uc + 1) ≤ xB; omega⟩
      · exact absurd h id
    · exact absurd h id
  · exact absurd h id
theorem z_tyc {U : State} {c1 c2 : ClassId} {ty : FieldType} (h1 : va_RA U c1 ty) (h2 : va_RA U c2 ty) : c1 = c2 := by
  cases ty with
  | object N =>
    obtain ⟨-, -, -, -, -, a⟩ := h1
    obtain ⟨-, -, -, -, -, b⟩ := h2
    exact Option.some.inj (a.symm.trans b)
  | _ => exact Option.some.inj (h1.symm.trans h2)
theorem z_rep {ad : Nat → Nat} {ρ : Nat → Int32} {fm : Value} {n : Nat} : (fun j => xI (xv ad ρ fm ((List.replicate n (Value.int 0)).getD j .null))) = fun _ => 0 := by
  funext j
  rw [List.getD_eq_getElem?_getD]
  by_cases hj : j < n
  · rw [List.getElem?_replicate, if_pos hj]; rfl
  · rw [List.getElem?_replicate, if_neg hj]; rfl
theorem z_repq {ad : Nat → Nat} {ρ : Nat → Int32} {fm : Value} {n : Nat} : (fun j => xR (xv ad ρ fm ((List.replicate n Value.null).getD j .null))) = fun _ => none := by
  funext j
  rw [List.getD_eq_getElem?_getD]
  by_cases hj : j < n
  · rw [List.getElem?_replicate, if_pos hj]; rfl
  · rw [List.getElem?_replicate, if_neg hj]; rfl
theorem z_newa (hE : xEnv p l e R s m args below meth c D cA ad fm A n0 mi) {atype : ArrayType} {tag k0 : Nat} (htg : 100 ≤ tag ∧ tag < 102) (hk0 : (xtys cA)[k0]? = some (cA tag, newarray.typeOf atype)) (hdef : defaultValue (newarray.typeOf atype) = .int 0) (hby : componentBytes (newarray.typeOf atype) ≤ 4) (hw : Cond.arrayClass (newarray.typeOf atype) ∈ wsL_law) (hdg : decode mi.2.1 pc = .ok (.newarray atype, 2)) (h : xGood (xRn p l e R s m args below meth c D cA ad ρ fm A mi.2.2.2.2.1 n0 mi.2.2.2.2.2.2.2.1 mi.2.2.2.2.2.2.2.2.1 Q) L (xnewa pc lo st C rg uc us mi.2.2.2.2.2.2.2.1 mi.2.2.2.2.2.2.2.2.1 tag)) : xRn p l e R s m args below meth c D cA ad ρ fm A mi.2.2.2.2.1 n0 mi.2.2.2.2.2.2.2.1 mi.2.2.2.2.2.2.2.2.1 Q (pc, lo, st, C, rg, uc, us) := by
  obtain ⟨hx, hb, hml, hown, hts, hK, hX, hret, hlk, hin, hroom, hrc, hrs, hF, hA, hAx, had⟩ := hE
  unfold xnewa at h
  split at h
  · next n r =>
    split at h
    · next hq =>
      obtain ⟨q0, q1, q2, q3, q4⟩ := hq
      rw [xfN_eq, xfN_eq] at h
      intro H locs ls hR hL hP hD hS hn
      have hbm : n.toInt.toNat * componentBytes (newarray.typeOf atype) ≤ n.toInt.toNat * 4 := Nat.mul_le_mul_left _ hby
      refine va_newa (D := D) (N' := n.toInt.toNat) (a0 := (n.toInt.toNat, .inl (fun _ => 0))) hx hb (hts _ hw) rfl hK hP hD hS hA (fun cZ => by rw [vp_cell_i, hdef]) (by rw [Int32.lt_iff_toInt_lt]; simp; omega) rfl (by omega) (by rw [hrc]; exact q2) (by rw [hrs]; exact q3) hdg (fun qa cZ H1 hK1 hP1 hD1 hS1 => xW_sz fun hsz => ?_)
      have hpin := x_pin hAx had hn.1 q4 hP1 hD1 hsz
      subst hpin
      have ec : cZ = cA tag := z_tyc (hK1.2 5 (cZ, _) rfl).2 (hK.2 k0 _ hk0).2
      subst ec
      have e2 : xenc cA (xv ad ρ fm) ad C ++ [(ad C.length, .inl (cA tag, n.toInt.toNat, .inl (fun _ => 0)))] = xenc cA (xv ad ρ fm) ad (C ++ [(tag, List.replicate n.toInt.toNat (.int 0))]) := by
        rw [xenc_push, xencC_i htg.1 htg.2, List.length_replicate, z_rep]
      rw [e2] at hP1 hD1
      exact h H1 locs ls hR hL hP1 hD1 hS1 ⟨by rw [List.length_append, hn.1]; simp; omega, q2, q3, by have h9 : C.length = n0 + uc := hn.1; show n0 + (uc + 1) ≤ xB; omega⟩
    · exact absurd h id
  · exact absurd h id
theorem z_newq (hE : xEnv p l e R s m args below meth c D cA ad fm A n0 mi) {idx : Nat} (hdg : decode mi.2.1 pc = .ok (.anewarray idx, 3)) (h : xGood (xRn p l e R s m args below meth c D cA ad ρ fm A mi.2.2.2.2.1 n0 mi.2.2.2.2.2.2.2.1 mi.2.2.2.2.2.2.2.2.1 Q) L (xnewq pc lo st C rg uc us mi.2.2.2.2.2.2.2.1 mi.2.2.2.2.2.2.2.2.1 mi.2.2.1 idx)) : xRn p l e R s m args below meth c D cA ad ρ fm A mi.2.2.2.2.1 n0 mi.2.2.2.2.2.2.2.1 mi.2.2.2.2.2.2.2.2.1 Q (pc, lo, st, C, rg, uc, us) := by
  obtain ⟨hx, hb, hml, hown, hts, hK, hX, hret, hlk, hin, hroom, hrc, hrs, hF, hA, hAx, had⟩ := hE
  unfold xnewq at h
  split at h
  · next n r =>
    split at h
    · next ci hci =>
      split at h
      · next hq =>
        obtain ⟨q0, q1, q2, q3, q4, q5⟩ := hq
        rw [xfN_eq, xfN_eq] at h
        intro H locs ls hR hL hP hD hS hn
        obtain ⟨Cn, k0, tag, hAO, hcl, hk0, htag, hif⟩ : ∃ (Cn : String) (k0 tag : Nat), va_AO Cn s ∧ Cond.classLink (xcn mi.2.2.1) idx Cn ∈ wsL_law ∧ (xtys cA)[k0]? = some (cA tag, .object Cn) ∧ 102 ≤ tag ∧ (if ci = 5 then 102 else 103) = tag := by
          rcases xkl_ok hci with ⟨h104, -⟩ | ⟨q, hq, hcl, -, -⟩
          · simp only at h104; omega
          · rcases q5 with rfl | rfl
            · cases hq; exact ⟨RX5, 2, 102, hX.2.2.2.2.1.1, hcl, rfl, by decide, rfl⟩
            · cases hq; exact ⟨RX2, 3, 103, hX.2.2.2.2.1.2.1, hcl, rfl, by decide, rfl⟩
        rw [hif] at h
        refine va_newq (D := D) (N' := n.toInt.toNat) hx hb hown (hts _ hcl) hAO hK hP hD hS hA (by rw [Int32.lt_iff_toInt_lt]; simp; omega) rfl (by omega) (by rw [hrc]; exact q2) (by rw [hrs]; exact q3) hdg (fun qa cZ H1 hK1 hP1 hD1 hS1 => xW_sz fun hsz => ?_)
        have hpin := x_pin hAx had hn.1 q4 hP1 hD1 hsz
        subst hpin
        have ec : cZ = cA tag := z_tyc (hK1.2 5 (cZ, _) rfl).2 (hK.2 k0 _ hk0).2
        subst ec
        have e2 : xenc cA (xv ad ρ fm) ad C ++ [(ad C.length, .inl (cA tag, n.toInt.toNat, .inr (.inr (.inr (.inr (fun _ => none))))))] = xenc cA (xv ad ρ fm) ad (C ++ [(tag, List.replicate n.toInt.toNat .null)]) := by
          rw [xenc_push, xencC_q htag, List.length_replicate, z_repq]
        rw [e2] at hP1 hD1
        exact h H1 locs ls hR hL hP1 hD1 hS1 ⟨by rw [List.length_append, hn.1]; simp; omega, q2, q3, by have h9 : C.length = n0 + uc := hn.1; show n0 + (uc + 1) ≤ xB; omega⟩
      · exact absurd h id
    · exact absurd h id
  · exact absurd h id
theorem xcpy_len {α : Type} {xs ys : List α} {sp dp n : Nat} (h1 : sp + n ≤ xs.length) (h2 : dp + n ≤ ys.length) : (ys.take dp ++ ((xs.drop sp).take n ++ ys.drop (dp + n))).length = ys.length := by
  simp only [List.length_append, List.length_take, List.length_drop]
  omega
theorem xcpy_get {α : Type} {xs ys : List α} {sp dp n : Nat} (d : α) (h1 : sp + n ≤ xs.length) (h2 : dp + n ≤ ys.length) (j : Nat) : (ys.take dp ++ ((xs.drop sp).take n ++ ys.drop (dp + n))).getD j d = if dp ≤ j ∧ j < dp + n then xs.getD (sp + (j - dp)) d else ys.getD j d := by
  simp only [List.getD_eq_getElem?_getD]
  congr 1
  by_cases c1 : j < dp
  · rw [if_neg (by omega), List.getElem?_append_left (by rw [List.length_take]; omega), List.getElem?_take, if_pos c1]
  · rw [List.getElem?_append_right (by rw [List.length_take]; omega), List.length_take, Nat.min_eq_left (by omega)]
    by_cases c2 : j < dp + n
    · rw [if_pos ⟨by omega, c2⟩, List.getElem?_append_left (by rw [List.length_take, List.length_drop]; omega), List.getElem?_take, if_pos (by omega), List.getElem?_drop]
    · rw [if_neg (by omega), List.getElem?_append_right (by rw [List.length_take, List.length_drop]; omega), List.length_take, List.length_drop, Nat.min_eq_left (by omega), List.getElem?_drop]
      have e1 : dp + n + (j - dp - n) = j := by omega
      rw [e1]
theorem z_sum (hF : xokF fm) {r : List Value} (h : r.length ≤ 4) : ((r.map (xv ad ρ fm)).map fun v => v.category).sum ≤ 8 := xcat_sum hF r h
theorem z_copy (hE : xEnv p l e R s m args below meth c D cA ad fm A n0 mi) {idx : Nat} (hlink : Cond.methodLink (xcn mi.2.2.1) idx arraycopyName ∈ wsL_law) (hdg : decode mi.2.1 pc = .ok (.invokestatic idx, 3)) (h : xGood (xRn p l e R s m args below meth c D cA ad ρ fm A mi.2.2.2.2.1 n0 mi.2.2.2.2.2.2.2.1 mi.2.2.2.2.2.2.2.2.1 Q) L (xcopy pc lo st C rg uc us)) : xRn p l e R s m args below meth c D cA ad ρ fm A mi.2.2.2.2.1 n0 mi.2.2.2.2.2.2.2.1 mi.2.2.2.2.2.2.2.2.1 Q (pc, lo, st, C, rg, uc, us) := by
  obtain ⟨hx, hb, hml, hown, hts, hK, hX, hret, hlk, hin, hroom, hrc, hrs, hF, hA, hAx, had⟩ := hE
  unfold xcopy at h
  split at h
  · next n dp d sp sr r =>
    split at h
    · next hq =>
      obtain ⟨q0, q1, q2, q3⟩ := hq
      rw [xnth_eq] at h
      split at h
      · next t1 xs hc1 =>
        rw [xnth_eq] at h
        split at h
        · next t2 ys hc2 =>
          split at h
          · next hq2 =>
            obtain ⟨rfl, rfl, g1, g2⟩ := hq2
            rw [xset_eq] at h
            intro H locs ls hR hL hP hD hS hn
            have he1 := xenc_get (cA := cA) (V := xv ad ρ fm) (ad := ad) hc1
            have he2 := xenc_get (cA := cA) (V := xv ad ρ fm) (ad := ad) hc2
            rw [xencC_i (Nat.le_refl _) (by decide)] at he1 he2
            have nl : ∀ z : Int32, 0 ≤ z.toInt → ¬ z < 0 := fun z hz => by rw [Int32.lt_iff_toInt_lt]; simp; omega
            have hroom2 : ((r.map (xv ad ρ fm)).map fun v => v.category).sum + (nativeFrameWords "java/lang/System" "arraycopy" 5 + 11) ≤ R.locals := by
              have h1 := z_sum (ad := ad) (ρ := ρ) hF q3
              have h2 : nativeFrameWords "java/lang/System" "arraycopy" 5 ≤ 20 := by decide
              have h3 := hroom.2
              omega
            refine va_copyi hx hb (by rw [hml]; exact hL.1.symm) hown (hts _ hlink) (hts _ xo2) (hts _ xo3) (hts _ xo4) hK hP hD hS sr d 0 0 he1 he2 rfl rfl rfl (nl _ q2) (nl _ q1) (nl _ q0) g1 g2 (fun i hi => rfl) hroom.1 hroom2 hdg (fun H1 locs1 hP1 hD1 hS1 => ?_)
            have e2 : (xenc cA (xv ad ρ fm) ad C).set d (ad d, .inl (cA 100, ys.length, .inl (va_cpy (fun j => xI (xv ad ρ fm (xs.getD j .null))) (fun j => xI (xv ad ρ fm (ys.getD j .null))) sp.toNatClampNeg dp.toNatClampNeg n.toNatClampNeg))) = xenc cA (xv ad ρ fm) ad (C.set d (100, ys.take dp.toInt.toNat ++ ((xs.drop sp.toInt.toNat).take n.toInt.toNat ++ ys.drop (dp.toInt.toNat + n.toInt.toNat)))) := by
              rw [xenc_set, xencC_i (Nat.le_refl _) (by decide), xcpy_len g1 g2]
              congr 6
              funext j
              rw [xcpy_get _ g1 g2]
              unfold va_cpy
              rw [xtn, xtn, xtn]
              split <;> rfl
            rw [e2] at hP1 hD1
            exact h H1 locs1 ls hR hL hP1 hD1 hS1 ⟨by rw [List.length_set]; exact hn.1, hn.2⟩
          · exact absurd h id
        · exact absurd h id
      · exact absurd h id
    · exact absurd h id
  · exact absurd h id
theorem z_math2 {f : Int32 → Int32 → Int32} (hE : xEnv p l e R s m args below meth c D cA ad fm A n0 mi) (row : ∀ (x y : Int32) (H : Heap) (locs : List Loc) (ls : Array Slot) (r : List Value), ls.size = mi.2.2.2.2.1 → r.length ≤ 4 → uc ≤ mi.2.2.2.2.2.2.2.1 → us ≤ mi.2.2.2.2.2.2.2.2.1 → W p l e R s m args below meth c H locs uc us Q (F0 m (pc + 3) ls (.int (f x y) :: r.map (xv ad ρ fm))) → W p l e R s m args below meth c H locs uc us Q (F0 m pc ls (.int y :: .int x :: r.map (xv ad ρ fm)))) (h : xGood (xRn p l e R s m args below meth c D cA ad ρ fm A mi.2.2.2.2.1 n0 mi.2.2.2.2.2.2.2.1 mi.2.2.2.2.2.2.2.2.1 Q) L (xmath2 pc lo st C rg uc us f)) : xRn p l e R s m args below meth c D cA ad ρ fm A mi.2.2.2.2.1 n0 mi.2.2.2.2.2.2.2.1 mi.2.2.2.2.2.2.2.2.1 Q (pc, lo, st, C, rg, uc, us) := by
  unfold xmath2 at h
  split at h
  · next b a r =>
    split at h
    · next x hx =>
      split at h
      · next y hy =>
        split at h
        · next hr =>
          rw [xfI_eq] at h
          intro H locs ls hR hL hP hD hS hn
          have e1 := xci_ok (ad := ad) (fm := fm) hR hx
          have e2 := xci_ok (ad := ad) (fm := fm) hR hy
          have h2 := h H locs ls hR hL hP hD hS hn
          simp only [List.map_cons, e1, e2]
          exact row x y H locs ls r hL.1 hr hn.2.1 hn.2.2.1 h2
        · exact absurd h id
      · exact z_fork (fun hR => xcov_cs hR _) h
    · exact z_fork (fun hR => xcov_cs hR _) h
  · exact absurd h id
theorem z_math1 {f : Int32 → Int32} (hE : xEnv p l e R s m args below meth c D cA ad fm A n0 mi) (row : ∀ (x : Int32) (H : Heap) (locs : List Loc) (ls : Array Slot) (r : List Value), ls.size = mi.2.2.2.2.1 → r.length ≤ 4 → uc ≤ mi.2.2.2.2.2.2.2.1 → us ≤ mi.2.2.2.2.2.2.2.2.1 → W p l e R s m args below meth c H locs uc us Q (F0 m (pc + 3) ls (.int (f x) :: r.map (xv ad ρ fm))) → W p l e R s m args below meth c H locs uc us Q (F0 m pc ls (.int x :: r.map (xv ad ρ fm)))) (h : xGood (xRn p l e R s m args below meth c D cA ad ρ fm A mi.2.2.2.2.1 n0 mi.2.2.2.2.2.2.2.1 mi.2.2.2.2.2.2.2.2.1 Q) L (xmath1 pc lo st C rg uc us f)) : xRn p l e R s m args below meth c D cA ad ρ fm A mi.2.2.2.2.1 n0 mi.2.2.2.2.2.2.2.1 mi.2.2.2.2.2.2.2.2.1 Q (pc, lo, st, C, rg, uc, us) := by
  unfold xmath1 at h
  split at h
  · next a r =>
    split at h
    · next x hx =>
      split at h
      · next hr =>
        rw [xfI_eq] at h
        intro H locs ls hR hL hP hD hS hn
        have e1 := xci_ok (ad := ad) (fm := fm) hR hx
        have h2 := h H locs ls hR hL hP hD hS hn
        simp only [List.map_cons, e1]
        exact row x H locs ls r hL.1 hr hn.2.1 hn.2.2.1 h2
      · exact absurd h id
    · exact z_fork (fun hR => xcov_cs hR _) h
  · exact absurd h id
theorem z_max (hE : xEnv p l e R s m args below meth c D cA ad fm A n0 mi) {idx : Nat} (hlink : Cond.methodLink (xcn mi.2.2.1) idx Lib.Math.max.name ∈ wsL_law) (hdg : decode mi.2.1 pc = .ok (.invokestatic idx, 3)) (h : xGood (xRn p l e R s m args below meth c D cA ad ρ fm A mi.2.2.2.2.1 n0 mi.2.2.2.2.2.2.2.1 mi.2.2.2.2.2.2.2.2.1 Q) L (xmath2 pc lo st C rg uc us (fun x y => if x < y then y else x))) : xRn p l e R s m args below meth c D cA ad ρ fm A mi.2.2.2.2.1 n0 mi.2.2.2.2.2.2.2.1 mi.2.2.2.2.2.2.2.2.1 Q (pc, lo, st, C, rg, uc, us) := by
  have hE2 := hE
  obtain ⟨hx, hb, hml, hown, hts, hK, hX, hret, hlk, hin, hroom, hrc, hrs, hF, hA, hAx, had⟩ := hE2
  refine z_math2 hE (fun x y H locs ls r hs hr h1 h2 k => ?_) h
  exact va_mmax hx hb (by rw [hml]; exact hs.symm) hown (hts _ hlink) (hts _ xo5) (hts _ xo8) (hts _ xo11) hroom.1 (by have := z_sum (ad := ad) (ρ := ρ) hF hr; have := hroom.2; omega) (by rw [hrc]; exact h1) (by rw [hrs]; exact h2) hdg k
theorem z_min (hE : xEnv p l e R s m args below meth c D cA ad fm A n0 mi) {idx : Nat} (hlink : Cond.methodLink (xcn mi.2.2.1) idx Lib.Math.min.name ∈ wsL_law) (hdg : decode mi.2.1 pc = .ok (.invokestatic idx, 3)) (h : xGood (xRn p l e R s m args below meth c D cA ad ρ fm A mi.2.2.2.2.1 n0 mi.2.2.2.2.2.2.2.1 mi.2.2.2.2.2.2.2.2.1 Q) L (xmath2 pc lo st C rg uc us (fun x y => if y < x then y else x))) : xRn p l e R s m args below meth c D cA ad ρ fm A mi.2.2.2.2.1 n0 mi.2.2.2.2.2.2.2.1 mi.2.2.2.2.2.2.2.2.1 Q (pc, lo, st, C, rg, uc, us) := by
  have hE2 := hE
  obtain ⟨hx, hb, hml, hown, hts, hK, hX, hret, hlk, hin, hroom, hrc, hrs, hF, hA, hAx, had⟩ := hE2
  refine z_math2 hE (fun x y H locs ls r hs hr h1 h2 k => ?_) h
  exact va_mmin hx hb (by rw [hml]; exact hs.symm) hown (hts _ hlink) (hts _ xo6) (hts _ xo8) (hts _ xo12) hroom.1 (by have := z_sum (ad := ad) (ρ := ρ) hF hr; have := hroom.2; omega) (by rw [hrc]; exact h1) (by rw [hrs]; exact h2) hdg k
theorem z_abs (hE : xEnv p l e R s m args below meth c D cA ad fm A n0 mi) {idx : Nat} (hlink : Cond.methodLink (xcn mi.2.2.1) idx Lib.Math.abs.name ∈ wsL_law) (hdg : decode mi.2.1 pc = .ok (.invokestatic idx, 3)) (h : xGood (xRn p l e R s m args below meth c D cA ad ρ fm A mi.2.2.2.2.1 n0 mi.2.2.2.2.2.2.2.1 mi.2.2.2.2.2.2.2.2.1 Q) L (xmath1 pc lo st C rg uc us (fun x => if x < 0 then -x else x))) : xRn p l e R s m args below meth c D cA ad ρ fm A mi.2.2.2.2.1 n0 mi.2.2.2.2.2.2.2.1 mi.2.2.2.2.2.2.2.2.1 Q (pc, lo, st, C, rg, uc, us) := by
  have hE2 := hE
  obtain ⟨hx, hb, hml, hown, hts, hK, hX, hret, hlk, hin, hroom, hrc, hrs, hF, hA, hAx, had⟩ := hE2
  refine z_math1 hE (fun x H locs ls r hs hr h1 h2 k => ?_) h
  refine va_mabs hx hb (by rw [hml]; exact hs.symm) hown (hts _ hlink) (hts _ xo7) (hts _ xo8) (hts _ xo13) hroom.1 (by have := z_sum (ad := ad) (ρ := ρ) hF hr; have := hroom.2; omega) (by rw [hrc]; exact h1) (by rw [hrs]; exact h2) hdg ?_
  have e1 : (if 0 ≤ x then x else 0 - x) = if x < 0 then -x else x := by
    by_cases hq : x < 0
    · rw [if_pos hq, if_neg (Int32.not_le.mpr hq)]
      apply Int32.toBitVec_inj.mp
      simp
    · rw [if_neg hq, if_pos (Int32.not_lt.mp hq)]
  rw [e1]
  exact k
theorem z_ldc (hE : xEnv p l e R s m args below meth c D cA ad fm A n0 mi) {idx : Nat} {v : Value} (hv : xldc mi.2.2.1 idx = some v) (hdg : decode mi.2.1 pc = .ok (.ldc idx, 2)) (h : xRn p l e R s m args below meth c D cA ad ρ fm A mi.2.2.2.2.1 n0 mi.2.2.2.2.2.2.2.1 mi.2.2.2.2.2.2.2.2.1 Q (pc + 2, lo, v :: st, C, rg, uc, us)) : xRn p l e R s m args below meth c D cA ad ρ fm A mi.2.2.2.2.1 n0 mi.2.2.2.2.2.2.2.1 mi.2.2.2.2.2.2.2.2.1 Q (pc, lo, st, C, rg, uc, us) := by
  obtain ⟨hx, hb, hml, hown, hts, hK, hX, -⟩ := hE
  intro H locs ls hR hL hP hD hS hn
  have h2 := h H locs ls hR hL hP hD hS hn
  unfold xldc at hv
  split at hv
  · next z hz =>
    cases hv
    exact lv_ldc hx hb hown (hts _ (xco_ok hz)) hdg h2
  · split at hv
    · next i hi =>
      cases hv
      have hs : ∃ q, xStr[i]? = some q ∧ q.1 = mi.2.2.1 ∧ q.2.1 = idx := by
        obtain ⟨ll, h3, h4⟩ := xas2_mem hi
        exact xls_all _ h3 _ h4
      obtain ⟨q, hq, e1, e2⟩ := hs
      have hZ := hX.2.2.2.1 i q hq
      rw [e1, e2] at hZ
      exact va_ldcS hx hb hown hZ hdg h2
    · cases hv
end XMAKE
end
section
/-! calls, ends, whole methods -/
theorem xAOA_moved {u U : State} (hvm : u.vm.Alike U.vm) (h : va_Nw (.arrayOver (.array .int)) u) : va_Nw (.arrayOver (.array .int)) U := by
  unfold va_Nw Cond.before Cond.holds at h ⊢
  simp only [Cond.value, beq_iff_eq] at h ⊢
  have e1 : U.vm.findClass (FieldType.array .int).toString = u.vm.findClass (FieldType.array .int).toString := by rw [hvm.findClass]
  have e2 : U.vm.findClass ("[" ++ (FieldType.array .int).toString) = u.vm.findClass ("[" ++ (FieldType.array .int).toString) := by rw [hvm.findClass]
  rw [e1]
  cases hc : u.vm.findClass (FieldType.array .int).toString with
  | none => rw [hc] at h; simp at h
  | some comp =>
    rw [hc] at h
    simp only [Option.bind_some, Option.bind_eq_some_iff, Option.map_eq_some_iff] at h ⊢
    obtain ⟨c, hi, k, hk, hb⟩ := h
    have q1 := va_idx_bare U.vm comp
    have q2 := va_idx_bare u.vm comp
    have q3 : U.vm.bare = u.vm.bare := by first | exact hvm.bare_eq | exact hvm.bare_eq.symm
    rw [q3] at q1
    have hi2 := q1.symm.trans (q2.trans hi)
    obtain ⟨k', hk', he⟩ := hvm.2.2 _ _ hk
    refine ⟨c, hi2, k', hk', ?_⟩
    have ek : k'.kind = k.kind := by rw [he]
    rw [ek, e2]
    exact hb
theorem xExt_call {ad : Nat → Nat} {fm : Value} {A A' : Nat → Prop} {s U : State} {H : Heap} {locs : List Loc} (h : xExt ad fm A s s.heap) (hS : va_S A s.heap H locs) (hAA : ∀ q, A' q → A q) (hW : s.WarmedH U.vm) (hU : U.heap = H) : xExt ad fm A' U U.heap := by
  obtain ⟨h1, h2, h3, h4, ⟨h5, h6, h7⟩, h8⟩ := h
  rw [hU]
  refine ⟨fun q hq => va_Z.moved hW.alike (((h1 q hq).kept hS.2.1).narrow hAA), fun j l hl => va_T.moved hW.alike (((h2 j l hl).kept hS.2.1).narrow hAA), vk_S.moved hW.alike ((h3.kept hS.2.1).narrow hAA), fun i q hq => (h4 i q hq).warm hW, ⟨h5.moved hW.alike, h6.moved hW.alike, xAOA_moved hW.alike h7⟩, fun q hq => va_Nw.warmM hW (h8 q hq)⟩
theorem xExt_same {ad : Nat → Nat} {fm : Value} {A : Nat → Prop} {u U : State} (h : xExt ad fm A u u.heap) (hv : U.vm = u.vm) (hh : U.heap = u.heap) : xExt ad fm A U U.heap := by
  have hal : u.vm.Alike U.vm := by rw [hv]; exact Vm.Alike.refl _
  obtain ⟨h1, h2, h3, h4, ⟨h5, h6, h7⟩, h8⟩ := h
  rw [hh]
  refine ⟨fun q hq => va_Z.moved hal (h1 q hq), fun j l hl => va_T.moved hal (h2 j l hl), vk_S.moved hal h3, fun i q hq => (h4 i q hq).same hv, ⟨h5.moved hal, h6.moved hal, xAOA_moved hal h7⟩, fun q hq => va_Nw.same rfl hv.symm (h8 q hq)⟩
def xws (mi : xMI) : List Cond := Cond.code mi.1 mi.2.1 mi.2.2.2.2.1 (xrt mi.2.2.2.2.2.1) :: wsL_law
def xrm (d : Nat) (mi : xMI) : Room := { frames := d, cells := mi.2.2.2.2.2.2.2.1, slots := mi.2.2.2.2.2.2.2.2.1, locals := 40 * d }
def xPc (D : va_G) (cA : Nat → ClassId) (ad : Nat → Nat) (ρ : Nat → Int32) (fm : Value) (C : List xCel) (sz : Nat) (as : List Value) : Array Value → State → Prop := va_Pc (as.map (xv ad ρ fm)) (fun U => U.heap.size = sz ∧ va_P D vwCl (xenc cA (xv ad ρ fm) ad C) U.heap ∧ va_K D vwCl (xtys cA) U ∧ va_D (fun _ => True) (xenc cA (xv ad ρ fm) ad C) ∧ xExt ad fm (va_A (xenc cA (xv ad ρ fm) ad C) sz) U U.heap)
def xQc (D : va_G) (cA : Nat → ClassId) (ad : Nat → Nat) (ρ : Nat → Int32) (fm : Value) (A : Nat → Prop) (n : Nat) (LF : List xLf) : Array Value → State → Outcome → State → Prop := fun _ st oc t => (∃ lf ∈ LF, xokR ρ lf.2.2 ∧ oc = .returned (lf.1.map (xv ad ρ fm)) ∧ va_P D vwCl (xenc cA (xv ad ρ fm) ad lf.2.1) t.heap ∧ va_K D vwCl (xtys cA) t ∧ va_D A (xenc cA (xv ad ρ fm) ad lf.2.1) ∧ lf.2.1.length = n ∧ n ≤ xB) ∧ va_F A st t
/-- what a method's run in the engine says of the machine -/
def xCt (d : Nat) (mi : xMI) (as : List Value) (C : List xCel) (rg : xRG) (LF : List xLf) : Prop :=
  ∀ (l : Launch) (D : va_G) (cA : Nat → ClassId) (ad : Nat → Nat) (ρ : Nat → Int32) (fm : Value) (sz : Nat), xokF fm → xokR ρ rg → C.length ≤ xB → (∀ k, C.length ≤ k → k < xB → ad k = sz + (k - C.length)) →
    Met l mi.1 (xws mi) (xrm d mi) (xPc D cA ad ρ fm C sz as) (xQc D cA ad ρ fm (va_A (xenc cA (xv ad ρ fm) ad C) sz) (C.length + mi.2.2.2.2.2.2.2.1) LF) mi.2.2.2.2.2.2.2.1 mi.2.2.2.2.2.2.2.2.1 (va_A (xenc cA (xv ad ρ fm) ad C) sz)
theorem xPc_blind {D : va_G} {cA : Nat → ClassId} {ad : Nat → Nat} {ρ : Nat → Int32} {fm : Value} {C : List xCel} {sz : Nat} {as : List Value} : FrameBlind (xPc D cA ad ρ fm C sz as) := by
  intro a U g mk q
  obtain ⟨q0, q1, qP, qK, qD, qX⟩ := q
  exact ⟨q0, q1, qP, va_K.moved (u := U) (U := U.calling g mk a) (Vm.Alike.refl U.vm) qK, qD, xExt_same qX rfl rfl⟩
theorem x_size {D : va_G} {cA : Nat → ClassId} {V : Value → Value} {ad : Nat → Nat} {A : Nat → Prop} {C : List xCel} {H0 H : Heap} {locs : List Loc} {n0 uc : Nat} (had : ∀ k, n0 ≤ k → k < xB → ad k = H0.size + (k - n0)) (hn : C.length = n0 + uc) (hB : n0 + uc ≤ xB) (hP : va_P D vwCl (xenc cA V ad C) H) (hS : va_S A H0 H locs) (hsz : H.size ≤ H0.size + uc) : H.size = H0.size + uc := by
  have h1 := hS.1
  by_cases h0 : uc = 0
  · omega
  · have hk : n0 + uc - 1 < C.length := by omega
    have hg := xenc_get (cA := cA) (V := V) (ad := ad) (List.getElem?_eq_getElem hk)
    have hlt : ad (n0 + uc - 1) < H.size := (hP _ _ hg).lt
    rw [had (n0 + uc - 1) (by omega) (by omega)] at hlt
    omega
theorem xgoodIn {ws : List Cond} (h : ∀ w ∈ ws, w ∈ wsL_law) : GoodIn wsL_law ws := fun w hw => ⟨h w hw, good_of_word (List.all_eq_true.mp xws_good w (h w hw))⟩
theorem xws_in {mi : xMI} (h : xMIok mi) : ∀ w ∈ xws mi, w ∈ wsL_law := fun w hw => (List.mem_cons.mp hw).elim (fun e => by rw [e]; exact h.2.2.1) id
theorem xcn_vw : ∀ {ci : Nat} {q : vw_C}, vwCl[ci]? = some q → xcn ci = q.1
  | 0, q, h => by cases h; rfl
  | 1, q, h => by cases h; rfl
  | 2, q, h => by cases h; rfl
  | 3, q, h => by cases h; rfl
  | 4, q, h => by cases h; rfl
  | 5, q, h => by cases h; rfl
  | 6, q, h => by cases h; rfl
  | 7, q, h => by cases h; rfl
  | n + 8, q, h => by simp [vwCl] at h
section XCALL
variable {p : Program} {l : Launch} {e : Env} {R : Room} {s : State} {m : MethodId} {args : Array Value} {below : List Frame} {meth : Method} {c : Code} {D : va_G} {cA : Nat → ClassId} {ad : Nat → Nat} {ρ : Nat → Int32} {fm : Value} {A : Nat → Prop} {n0 : Nat} {mi : xMI} {Q : State → Prop} {L : xLf → Prop}
variable {pc : Nat} {lo : List (Option Value)} {st : List Value} {C : List xCel} {rg : xRG} {uc us : Nat}
/-- behind a call -/
theorem z_back (hE : xEnv p l e R s m args below meth c D cA ad fm A n0 mi) {mi' : xMI} {LF : List xLf} {r st0 : List Value} {a : Array Value} {H : Heap} {locs : List Loc} {ls : Array Slot} (hL : xLV (xv ad ρ fm) ls mi.2.2.2.2.1 lo) (hP : va_P D vwCl (xenc cA (xv ad ρ fm) ad C) H) (hD : va_D A (xenc cA (xv ad ρ fm) ad C)) (hS : va_S A s.heap H locs) (hn : C.length = n0 + uc) (hq1 : uc + mi'.2.2.2.2.2.2.2.1 ≤ mi.2.2.2.2.2.2.2.1) (hq2 : us + mi'.2.2.2.2.2.2.2.2.1 ≤ mi.2.2.2.2.2.2.2.2.1)
    (hr : va_Run p l e R s m args below meth c H locs uc us mi'.2.2.2.2.2.2.2.1 mi'.2.2.2.2.2.2.2.2.1 (F0 m pc ls st0) (r.map (xv ad ρ fm)) (xQc D cA ad ρ fm (va_A (xenc cA (xv ad ρ fm) ad C) H.size) (C.length + mi'.2.2.2.2.2.2.2.1) LF a) (va_A (xenc cA (xv ad ρ fm) ad C) H.size))
    (h : xGood (xRn p l e R s m args below meth c D cA ad ρ fm A mi.2.2.2.2.1 n0 mi.2.2.2.2.2.2.2.1 mi.2.2.2.2.2.2.2.2.1 Q) L (xcallR pc lo (uc + mi'.2.2.2.2.2.2.2.1) (us + mi'.2.2.2.2.2.2.2.2.1) r (some LF))) : W p l e R s m args below meth c H locs uc us Q (F0 m pc ls st0) := by
  obtain ⟨hx, hb, hml, hown, hts, hK, hX, hret, hlk, hin, hroom, hrc, hrs, hF, hA, hAx, had⟩ := hE
  have hall : ∀ lf ∈ LF, xRn p l e R s m args below meth c D cA ad ρ fm A mi.2.2.2.2.1 n0 mi.2.2.2.2.2.2.2.1 mi.2.2.2.2.2.2.2.2.1 Q (xback pc lo (uc + mi'.2.2.2.2.2.2.2.1) (us + mi'.2.2.2.2.2.2.2.2.1) r lf) := by
    unfold xcallR at h
    simp only at h
    split at h
    · next lf0 => intro lf hlf; rw [List.mem_singleton.mp hlf]; exact h
    · intro lf hlf; exact h _ (List.mem_map.mpr ⟨lf, hlf, rfl⟩)
  have hAA : ∀ q, va_A (xenc cA (xv ad ρ fm) ad C) H.size q → A q := by
    intro q hq
    rcases hq with ⟨k, ez, hk⟩ | hq
    · exact hD.2 k _ hk
    · exact hA q (Nat.le_trans hS.1 hq)
  intro T hT X
  obtain ⟨v, st₀, t, T', Lc, h0, X', hLc, e1, e2, ⟨⟨lf, hlf, k1, k2, k3, k4, k5, k6, k7⟩, hz, hk⟩, stp⟩ := hr T hT X
  rw [h0] at hz hk
  have hv : v = lf.1.map (xv ad ρ fm) := by cases k2; rfl
  have hS' : va_S A s.heap T'.heap (locs ++ Lc) := ⟨Nat.le_trans hS.1 (by rw [e1]; exact hz), fun q h1 h2 => by rw [e1, hk q (Nat.lt_of_lt_of_le h1 hS.1) (fun z => h2 (hAA q z))]; exact hS.2.1 q h1 h2, fun q hq => by
    rcases List.mem_append.mp hq with h1 | h1
    · exact hS.2.2 q h1
    · exact hAA _ (hLc q h1)⟩
  have h2 := hall lf hlf T'.heap (locs ++ Lc) ls k1 hL (by rw [e1]; exact k3) (k5.weaken (fun _ _ _ hz => hAA _ hz)) hS' ⟨by show lf.2.1.length = _; rw [k6, hn]; show _ = n0 + (uc + _); omega, hq1, hq2, by have h9 := k7; rw [hn] at h9; show n0 + (uc + _) ≤ xB; omega⟩
  obtain ⟨t2, a1, b1⟩ := h2 T' rfl X'
  refine ⟨t2, stp t2 ?_, b1⟩
  have est : v.toList ++ r.map (xv ad ρ fm) = (lf.1.toList ++ r).map (xv ad ρ fm) := by
    rw [hv, List.map_append]
    cases lf.1 <;> rfl
  rw [est]
  exact a1
theorem xpop_ok : ∀ {n : Nat} {acc st as r : List Value}, xpop n acc st = some (as, r) → as.reverse ++ r = acc.reverse ++ st ∧ as.length = acc.length + n
  | 0, acc, st, as, r, h => by cases h; exact ⟨rfl, rfl⟩
  | n + 1, acc, [], as, r, h => by cases h
  | n + 1, acc, v :: st, as, r, h => by
    obtain ⟨h1, h2⟩ := xpop_ok (n := n) h
    refine ⟨by rw [h1]; simp, by rw [h2]; simp; omega⟩
/-- the link of a call -/
def xLk (own : String) (idx : Nat) (y : MethodName) (s : State) (args : Array Value) : Prop := (Cond.methodLink own idx y).before args s = true
theorem z_CB {mi' : xMI} (hok : xMIok mi') (hts : ∀ w ∈ wsL_law, w.before args s = true) {own : String} {idx d : Nat} (hl : (Cond.methodLink own idx mi'.1).before args s = true) (hR : R.frames = d + 1 ∧ R.locals = 40 * (d + 1)) {n : Nat} (hn : (parseMethodDescriptor mi'.1.desc).map (fun d => d.parameters.length) = some n) : CallB R s args own idx mi'.1 mi'.2.1 mi'.2.2.2.2.1 (xrt mi'.2.2.2.2.2.1) (xws mi') (xrm d mi') mi'.2.2.2.2.2.2.2.1 mi'.2.2.2.2.2.2.2.2.1 n := by
  obtain ⟨o1, o2, o3, o4, o5, o6, o7, o8, o9, o10, o11, o12⟩ := hok
  refine callB_of n hts (xgoodIn (xws_in ⟨o1, o2, o3, o4, o5, o6, o7, o8, o9, o10, o11, o12⟩)) rfl rfl rfl (hts _ o4) hl ⟨o5.1, o5.2, hn⟩ ⟨?_, ?_⟩
  · rw [hR.1]; exact Nat.le_refl _
  · rw [hR.2]; show 8 + (_ + 11) + 40 * d ≤ _; omega
theorem z_call (hE : xEnv p l e R s m args below meth c D cA ad fm A n0 mi) {d : Nat} (hR : R.frames = d + 1 ∧ R.locals = 40 * (d + 1)) {call : Nat → List Value → List xCel → xRG → Option (List xLf)} (hcall : ∀ (j : Nat) (mi' : xMI) (as : List Value) (C : List xCel) (rg : xRG) (LF : List xLf), xmi j = some mi' → call j as C rg = some LF → xCt d mi' as C rg LF) {kd j idx : Nat} (hlink : ∀ mi', xmi j = some mi' → mi'.2.2.2.2.2.2.1 = kd → (Cond.methodLink (xcn mi.2.2.1) idx mi'.1).before args s = true ∨ (kd = 2 ∧ va_Nw (.methodLinkNest (xcn mi.2.2.1) idx mi'.1 "StreetTillTen") s)) (hdg : (kd = 0 ∧ decode mi.2.1 pc = .ok (.invokestatic idx, 3)) ∨ (kd = 1 ∧ decode mi.2.1 pc = .ok (.invokevirtual idx, 3)) ∨ (kd = 2 ∧ decode mi.2.1 pc = .ok (.invokespecial idx, 3))) (h : xGood (xRn p l e R s m args below meth c D cA ad ρ fm A mi.2.2.2.2.1 n0 mi.2.2.2.2.2.2.2.1 mi.2.2.2.2.2.2.2.2.1 Q) L (xcall pc lo st C rg uc us call mi.2.2.2.2.2.2.2.1 mi.2.2.2.2.2.2.2.2.1 kd j)) : xRn p l e R s m args below meth c D cA ad ρ fm A mi.2.2.2.2.1 n0 mi.2.2.2.2.2.2.2.1 mi.2.2.2.2.2.2.2.2.1 Q (pc, lo, st, C, rg, uc, us) := by
  have hE2 := hE
  obtain ⟨hx, hb, hml, hown, hts, hK, hX, hret, hlk, hin, hroom, hrc, hrs, hF, hA, hAx, had⟩ := hE2
  unfold xcall at h
  split at h
  · next mi' nm by' own na mx rk kd' mc' ms' tb hj =>
    split at h
    · next hkd =>
      subst hkd
      split at h
      · next as r hpop =>
        split at h
        · next hq =>
          obtain ⟨hr4, hq1, hq2, hrecv⟩ := hq
          rw [xfN_eq, xfN_eq] at h
          cases hc : call j as C rg with
          | none => rw [hc] at h; exact absurd h id
          | some LF =>
            rw [hc] at h
            have hCt := hcall j _ as C rg LF hj hc
            have hok := xmi_ok hj
            obtain ⟨o1, o2, o3, o4, o5, o6, o7, o8, o9, o10, o11, o12⟩ := id hok
            obtain ⟨hst, hlen⟩ := xpop_ok hpop
            simp only [List.reverse_nil, List.nil_append] at hst
            simp only [List.length_nil, Nat.zero_add] at hlen
            intro H locs ls hR' hL hP hD hS hn
            have hn' : C.length = n0 + uc := hn.1
            have hB : n0 + uc ≤ xB := hn.2.2.2
            refine xW_sz fun hsz => ?_
            have hsize := x_size had hn' hB hP hS hsz
            have had' : ∀ k, C.length ≤ k → k < xB → ad k = H.size + (k - C.length) := by
              intro k h1 h2
              rw [had k (by omega) h2, hsize]
              omega
            have hM := hCt l D cA ad ρ fm H.size hF hR' (by omega) had'
            have hAA : ∀ q, va_A (xenc cA (xv ad ρ fm) ad C) H.size q → A q := by
              intro q hq
              rcases hq with ⟨k, ez, hk⟩ | hq
              · exact hD.2 k _ hk
              · exact hA q (Nat.le_trans hS.1 hq)
            have hpre : ∀ U : State, U.heap = H → s.WarmedH U.vm → xPc D cA ad ρ fm C H.size as (as.map (xv ad ρ fm)).toArray U := fun U hU hW => ⟨rfl, by rw [hU], by rw [hU]; exact hP, va_K.moved hW.alike hK, hD.weaken (fun _ _ _ _ => trivial), xExt_call hX hS hAA hW hU⟩
            have hsum : ((r.map (xv ad ρ fm)).map fun v => v.category).sum ≤ 8 := xcat_sum hF r hr4
            have hstk : st.map (xv ad ρ fm) = (as.map (xv ad ρ fm)).reverse ++ r.map (xv ad ρ fm) := by
              rw [← hst, List.map_append, List.map_reverse]
            have hlink' := hlink _ hj rfl
            rcases hdg with ⟨e0, hdg⟩ | ⟨e1, hdg⟩ | ⟨e2, hdg⟩
            · -- static
              subst e0
              have hlk2 : (Cond.methodLink (xcn mi.2.2.1) idx nm).before args s = true := by
                rcases hlink' with z | ⟨z, -⟩
                · exact z
                · cases z
              refine z_back hE hL hP hD hS hn' hq1 hq2 (va_runS (Ts := wsL_law) (As := as.map (xv ad ρ fm)) (rest := r.map (xv ad ρ fm)) (n := na) ⟨hx, hb, hml, hown, hts⟩ hM ⟨z_CB hok hts hlk2 hR (by rw [o6]; rfl), hts _ (o8 rfl)⟩ ⟨xPc_blind, hpre⟩ rfl (by rw [List.length_map]; exact hlen) hL.1 hstk (lv_room hsum) hdg ⟨by rw [hrc]; exact hq1, by rw [hrs]; exact hq2⟩) h
            · -- virtual
              subst e1
              have hlk2 : (Cond.methodLink (xcn mi.2.2.1) idx nm).before args s = true := by
                rcases hlink' with z | ⟨z, -⟩
                · exact z
                · cases z
              unfold xrecv at hrecv
              split at hrecv
              · next z => cases z
              · split at hrecv
                · next a as' =>
                  have hrc2 : ∃ cell : Cell, H[ad a]? = some cell ∧ cell.vm.isStatics = false ∧ s.vm.findClass nm.cls = some cell.cls := by
                    split at hrecv
                    · next h10 =>
                      rw [Bool.and_eq_true, decide_eq_true_eq, decide_eq_true_eq] at hrecv
                      obtain ⟨i, hi, rfl⟩ := xstr_ix a hrecv.1 hrecv.2
                      have := vk_recv hX.2.2.1 hi hS
                      rw [o2]
                      simp only [h10]
                      exact this
                    · next h10 =>
                      rw [xnth_eq] at hrecv
                      split at hrecv
                      · next t fs hca =>
                        rw [Bool.and_eq_true, decide_eq_true_eq, decide_eq_true_eq] at hrecv
                        obtain ⟨rfl, ht⟩ := hrecv
                        have he := xenc_get (cA := cA) (V := xv ad ρ fm) (ad := ad) hca
                        rw [xencC_o ht] at he
                        obtain ⟨rr, hrr, -⟩ := hP a _ he
                        have hcn := xcn_vw hrr
                        have := va_recv hK hP hrr he
                        rw [o2]
                        simp only
                        rw [hcn]
                        exact this
                      · cases hrecv
                  have hlen1 : na = as'.length + 1 := by rw [← hlen]; rfl
                  refine z_back hE hL hP hD hS hn' hq1 hq2 (va_runV (Ts := wsL_law) (C := nm.cls) (As := as'.map (xv ad ρ fm)) (rest := r.map (xv ad ρ fm)) (n := na - 1) ⟨hx, hb, hml, hown, hts⟩ hM ⟨z_CB hok hts hlk2 hR (by rw [o6]; rfl), hts _ (o9 Nat.one_ne_zero).1, hts _ (o10 rfl)⟩ ⟨xPc_blind, hrc2, hpre⟩ rfl (by rw [List.length_map]; omega) hL.1 (by rw [hstk, List.map_cons, List.reverse_cons, List.append_assoc]; rfl) (lv_room hsum) hdg ⟨by rw [hrc]; exact hq1, by rw [hrs]; exact hq2⟩) h
                · cases hrecv
            · -- constructors
              subst e2
              unfold xrecv at hrecv
              split at hrecv
              · next z => cases z
              · split at hrecv
                · next a as' =>
                  have hlen1 : na = as'.length + 1 := by rw [← hlen]; rfl
                  obtain ⟨i1, i2⟩ := o11 rfl
                  have hrt : xrt rk = none := by have i3 : rk = 0 := i2; rw [i3]; rfl
                  have hst2 : st.map (xv ad ρ fm) = (as'.map (xv ad ρ fm)).reverse ++ .ref (ad a) :: r.map (xv ad ρ fm) := by
                    rw [hstk, List.map_cons, List.reverse_cons, List.append_assoc]; rfl
                  rcases hlink' with hlk2 | ⟨-, hnest⟩
                  · have cb := z_CB (R := R) hok hts hlk2 hR (n := na - 1) (by rw [o6]; rfl)
                    simp only [hrt] at cb
                    refine z_back hE hL hP hD hS hn' hq1 hq2 (va_runI (Ts := wsL_law) (As := as'.map (xv ad ρ fm)) (rest := r.map (xv ad ρ fm)) (n := na - 1) ⟨hx, hb, hml, hown, hts⟩ hM ⟨cb, i1, hts _ (o9 (show (2 : Nat) ≠ 0 by decide)).1⟩ ⟨xPc_blind, hpre⟩ rfl (by rw [List.length_map]; omega) hL.1 hst2 (lv_room hsum) hdg ⟨by rw [hrc]; exact hq1, by rw [hrs]; exact hq2⟩) h
                  · refine z_back hE hL hP hD hS hn' hq1 hq2 (va_runIN (Ts := wsL_law) (host := "StreetTillTen") (bytes := by') (maxL := mx) (As := as'.map (xv ad ρ fm)) (rest := r.map (xv ad ρ fm)) (n := na - 1) ⟨hx, hb, hml, hown, hts⟩ hM ⟨va_cnB (ws' := wsL_law) (na - 1) hts (xgoodIn (xws_in hok)) (by unfold xws; rw [hrt]) rfl rfl hnest (hts _ o4) ⟨o5.1, o5.2, by rw [o6]; rfl⟩ ⟨by rw [hR.1]; exact Nat.le_refl _, by rw [hR.2]; show 8 + (_ + 11) + 40 * d ≤ _; simp only at o7; omega⟩, i1, hts _ (o9 (show (2 : Nat) ≠ 0 by decide)).1⟩ ⟨xPc_blind, hpre⟩ rfl (by rw [List.length_map]; omega) hL.1 hst2 (lv_room hsum) hdg ⟨by rw [hrc]; exact hq1, by rw [hrs]; exact hq2⟩) h
                · cases hrecv
        · exact absurd h id
      · exact absurd h id
    · exact absurd h id
  · exact absurd h id
end XCALL
end
section
/-! new int[n][k] -/
theorem xouter (c : ClassId) (N h0 : Nat) : ∀ i : Nat, Jvm.Free.Multi.outerC c N h0 i = arrV c N (fun j => va_rf (if j < i then some (h0 + 1 + j) else none))
  | 0 => by
    show ({ cls := c, slots := Array.replicate N .null, vm := .none } : Cell) = _
    rw [arrV_new]
    refine congrArg (arrV c N) (funext fun j => ?_)
    simp [va_rf]
  | i + 1 => by
    show (Jvm.Free.Multi.outerC c N h0 i).setSlot i (.ref (h0 + 1 + i)) = _
    rw [xouter c N h0 i, arrV_store]
    refine congrArg (arrV c N) (funext fun j => ?_)
    by_cases e : j = i
    · subst e; simp [updV, va_rf]
    · by_cases h : j < i
      · simp [updV, e, h, Nat.lt_succ_of_lt h]
      · simp [updV, e, h, show ¬ j < i + 1 by omega]
theorem xarrV_eq {c : ClassId} {N : Nat} {f g : Nat → Value} (h : ∀ j, j < N → f j = g j) : arrV c N f = arrV c N g := by
  unfold arrV
  congr 1
  apply Array.ext
  · simp
  · intro i h1 h2
    simp only [Array.getElem_ofFn]
    exact h i (by simpa using h1)
section XNEW2
variable {p : Program} {l : Launch} {e : Env} {R : Room} {s : State} {m : MethodId} {args : Array Value} {below : List Frame} {meth : Method} {c : Code} {D : va_G} {cA : Nat → ClassId} {ad : Nat → Nat} {ρ : Nat → Int32} {fm : Value} {A : Nat → Prop} {n0 : Nat} {mi : xMI} {Q : State → Prop} {L : xLf → Prop}
variable {pc : Nat} {lo : List (Option Value)} {st : List Value} {C : List xCel} {rg : xRG} {uc us : Nat}
theorem z_new2 (hE : xEnv p l e R s m args below meth c D cA ad fm A n0 mi) {idx : Nat} (hdg : decode mi.2.1 pc = .ok (.multianewarray idx 2, 4)) (h : xGood (xRn p l e R s m args below meth c D cA ad ρ fm A mi.2.2.2.2.1 n0 mi.2.2.2.2.2.2.2.1 mi.2.2.2.2.2.2.2.2.1 Q) L (xnew2 pc lo st C rg uc us mi.2.2.2.2.2.2.2.1 mi.2.2.2.2.2.2.2.2.1 mi.2.2.1 idx)) : xRn p l e R s m args below meth c D cA ad ρ fm A mi.2.2.2.2.1 n0 mi.2.2.2.2.2.2.2.1 mi.2.2.2.2.2.2.2.2.1 Q (pc, lo, st, C, rg, uc, us) := by
  obtain ⟨hx, hb, hml, hown, hts, hK, hX, hret, hlk, hin, hroom, hrc, hrs, hF, hA, hAx, had⟩ := hE
  unfold xnew2 at h
  split at h
  · next k n r =>
    split at h
    · next ci hci =>
      split at h
      · next hq =>
        obtain ⟨rfl, q0, q1, q2, q3, q4, q5, q6⟩ := hq
        rw [xfN_eq, xfN_eq] at h
        have hcl : Cond.classLink (xcn mi.2.2.1) idx "[[I" ∈ wsL_law := by
          rcases xkl_ok hci with ⟨-, hc⟩ | ⟨q, hq, -⟩
          · exact hc
          · simp [vwCl] at hq
        intro H locs ls hR hL hP hD hS hn
        have hn' : C.length = n0 + uc := hn.1
        refine xW_sz fun hsz => ?_
        have hsize := x_size had hn' hn.2.2.2 hP hS hsz
        intro T hT X
        have hnn : ¬ n < 0 := by rw [Int32.lt_iff_toInt_lt]; simp; omega
        have hkn : ¬ k < 0 := by rw [Int32.lt_iff_toInt_lt]; simp; omega
        obtain ⟨vm₁, c1, comp, -, fA, fC, hO, -, X', step⟩ := X.multianewarray2F hx hown (hts _ hcl) (show (Cond.arrayOver (.array .int)).before args s = true from hX.2.2.2.2.1.2.2) (hts _ xo9) (g := F0 m pc ls (.int k :: .int n :: r.map (xv ad ρ fm))) rfl (by rw [hb]; exact hdg) rfl hnn hkn (by rw [xtn]; omega) (by rw [xtn]; show _ * 4 ≤ _; omega) (by rw [xtn]; omega) rfl rfl (by show uc + (1 + n.toInt.toNat) ≤ R.cells; rw [hrc]; omega) (by show us + (n.toInt.toNat + n.toInt.toNat * k.toInt.toNat) ≤ R.slots; rw [hrs]; omega)
        rw [xtn, xtn] at X' step
        generalize hN : n.toInt.toNat = N at *
        generalize hKk : k.toInt.toNat = K at *
        generalize hFill : Jvm.Free.Multi.fill (T.setVm vm₁) c1 comp N K (defaultValue .int) N = F at X' step
        have hTh : (T.setVm vm₁).heap = H := hT
        obtain ⟨f1, f2, -, -⟩ := Jvm.Free.Multi.fill_facts (T.setVm vm₁) c1 comp N K (defaultValue .int) N
        rw [hFill, hTh] at f1 f2
        have hold : ∀ x : Nat, x < H.size → F.heap[x]? = H[x]? := fun x hx => by
          have := Jvm.Free.Multi.fill_old (T.setVm vm₁) c1 comp N K (defaultValue .int) (a := x) (by rw [hTh]; exact hx) N
          rw [hFill, hTh] at this
          exact this
        have hrow : ∀ j : Nat, j < N → F.heap[H.size + 1 + j]? = some (Jvm.Free.Multi.innerC comp K (defaultValue .int)) := fun j hj => by
          have := Jvm.Free.Multi.fill_inner (T.setVm vm₁) c1 comp N K (defaultValue .int) N j hj
          rw [hFill, hTh] at this
          exact this
        have ec1 : c1 = cA 104 := by
          have h9 := (hK.2 4 (cA 104, .array .int) rfl).2
          exact Option.some.inj (fA.symm.trans h9)
        have ec2 : comp = cA 100 := by
          have h9 := (hK.2 0 (cA 100, .int) rfl).2
          exact Option.some.inj (fC.symm.trans h9)
        subst ec1
        subst ec2
        have hadC : ∀ i, i ≤ N → ad (C.length + i) = H.size + i := fun i hi => by
          rw [had (C.length + i) (by omega) (by omega), hsize]; omega
        have hnew : ∀ (i : Nat) (q : xCel), (C ++ ((104, (List.range N).map fun i => Value.ref (C.length + 1 + i)) :: List.replicate N (100, List.replicate K (.int 0))))[i]? = some q → (i < C.length ∧ C[i]? = some q) ∨ (i = C.length ∧ q = (104, (List.range N).map fun i => Value.ref (C.length + 1 + i))) ∨ ∃ j, j < N ∧ i = C.length + (1 + j) ∧ q = (100, List.replicate K (.int 0)) := by
          intro i q hq
          by_cases hi : i < C.length
          · rw [List.getElem?_append_left hi] at hq
            exact Or.inl ⟨hi, hq⟩
          · rw [List.getElem?_append_right (by omega)] at hq
            cases hd : i - C.length with
            | zero =>
              rw [hd, List.getElem?_cons_zero] at hq
              exact Or.inr (Or.inl ⟨by omega, (Option.some.inj hq).symm⟩)
            | succ j =>
              rw [hd, List.getElem?_cons_succ, List.getElem?_replicate] at hq
              split at hq
              · next hj => exact Or.inr (Or.inr ⟨j, hj, by omega, (Option.some.inj hq).symm⟩)
              · cases hq
        have hP1 : va_P D vwCl (xenc cA (xv ad ρ fm) ad (C ++ ((104, (List.range N).map fun i => Value.ref (C.length + 1 + i)) :: List.replicate N (100, List.replicate K (.int 0))))) F.heap := by
          intro i z hz
          obtain ⟨q, hq, rfl⟩ := xenc_of hz
          rcases hnew i q hq with ⟨hi, hq2⟩ | ⟨rfl, rfl⟩ | ⟨j, hj, rfl, rfl⟩
          · have hg := hP i _ (xenc_get hq2)
            exact hg.kept (hold _ hg.lt)
          · rw [xencC_q (by decide)]
            show F.heap[ad C.length]? = some (vp_cell _ _)
            have h0 := hadC 0 (Nat.zero_le _)
            rw [Nat.add_zero, Nat.add_zero] at h0
            rw [h0, f2, vp_cell_q]
            rw [xouter]
            refine congrArg some (Eq.trans (xarrV_eq (fun j hj => ?_)) (congrArg (fun z => arrV (cA 104) z _) (show N = ((List.range N).map fun i => Value.ref (C.length + 1 + i)).length by simp)))
            rw [if_pos hj]
            have e1 : ((List.range N).map fun i => Value.ref (C.length + 1 + i)).getD j .null = .ref (C.length + 1 + j) := by
              rw [List.getD_eq_getElem?_getD, List.getElem?_map, List.getElem?_range hj]; rfl
            rw [e1]
            show Value.ref (H.size + 1 + j) = .ref (ad (C.length + 1 + j))
            rw [Nat.add_assoc C.length 1 j, hadC (1 + j) (by omega), Nat.add_assoc]
          · rw [xencC_i (by decide) (by decide)]
            show F.heap[ad (C.length + (1 + j))]? = some (vp_cell _ _)
            rw [hadC (1 + j) (by omega), ← Nat.add_assoc, hrow j hj, vp_cell_i]
            have e0 : Jvm.Free.Multi.innerC (cA 100) K (defaultValue .int) = arrV (cA 100) K (fun _ => defaultValue .int) := by
              unfold Jvm.Free.Multi.innerC
              rw [arrV_new]
            rw [e0]
            refine congrArg some (Eq.trans (xarrV_eq (fun i hi => ?_)) (congrArg (fun z => arrV (cA 100) z _) (show K = (List.replicate K (Value.int 0)).length by simp)))
            have e1 : (List.replicate K (Value.int 0)).getD i .null = .int 0 := by
              rw [List.getD_eq_getElem?_getD, List.getElem?_replicate, if_pos hi]; rfl
            rw [e1]
            rfl
        have hD1 : va_D A (xenc cA (xv ad ρ fm) ad (C ++ ((104, (List.range N).map fun i => Value.ref (C.length + 1 + i)) :: List.replicate N (100, List.replicate K (.int 0))))) := by
          have hcl2 : ∀ (i : Nat) (q : xCel), (C ++ ((104, (List.range N).map fun i => Value.ref (C.length + 1 + i)) :: List.replicate N (100, List.replicate K (.int 0))))[i]? = some q → (i < C.length ∧ C[i]? = some q ∧ ad i < H.size) ∨ (C.length ≤ i ∧ ad i = H.size + (i - C.length)) := by
            intro i q hq
            rcases hnew i q hq with ⟨hi, hq2⟩ | ⟨rfl, -⟩ | ⟨j, hj, rfl, -⟩
            · exact Or.inl ⟨hi, hq2, (hP i _ (xenc_get hq2)).lt⟩
            · refine Or.inr ⟨Nat.le_refl _, ?_⟩
              have h0 := hadC 0 (Nat.zero_le _)
              rw [Nat.add_zero, Nat.add_zero] at h0
              rw [h0, Nat.sub_self, Nat.add_zero]
            · refine Or.inr ⟨by omega, ?_⟩
              rw [hadC (1 + j) (by omega)]
              omega
          refine ⟨fun i j x y hi hj hxy => ?_, fun i x hi => ?_⟩
          · obtain ⟨q1, g1, rfl⟩ := xenc_of hi
            obtain ⟨q2, g2, rfl⟩ := xenc_of hj
            have hxy' : ad i = ad j := hxy
            rcases hcl2 i q1 g1 with ⟨a1, a2, a3⟩ | ⟨a1, a2⟩ <;> rcases hcl2 j q2 g2 with ⟨b1, b2, b3⟩ | ⟨b1, b2⟩
            · exact hD.1 i j _ _ (xenc_get a2) (xenc_get b2) hxy'
            · omega
            · omega
            · omega
          · obtain ⟨q1, g1, rfl⟩ := xenc_of hi
            rcases hcl2 i q1 g1 with ⟨a1, a2, a3⟩ | ⟨a1, a2⟩
            · exact hD.2 i _ (xenc_get a2)
            · have hS1 := hS.1
              exact hA _ (by show _ ≤ ad i; omega)
        have hS1 : va_S A s.heap F.heap locs := ⟨by rw [f1]; have := hS.1; omega, fun x h1 h2 => (hold x (Nat.lt_of_lt_of_le h1 hS.1)).trans (hS.2.1 x h1 h2), hS.2.2⟩
        have hlen : (C ++ ((104, (List.range N).map fun i => Value.ref (C.length + 1 + i)) :: List.replicate N (100, List.replicate K (.int 0)))).length = n0 + (uc + 1 + N) := by
          rw [List.length_append, List.length_cons, List.length_replicate]; omega
        obtain ⟨t, a1, b1⟩ := h F.heap locs ls hR hL hP1 hD1 hS1 ⟨hlen, q4, q5, by show n0 + (uc + 1 + N) ≤ xB; omega⟩ F rfl X'
        refine ⟨t, step t ?_, b1⟩
        have h0 := hadC 0 (Nat.zero_le _)
        rw [Nat.add_zero, Nat.add_zero] at h0
        have e9 : T.heap.size = ad C.length := by rw [hT]; exact h0.symm
        rw [e9]
        exact a1
      · exact absurd h id
    · exact absurd h id
  · exact absurd h id
end XNEW2
end
section
/-! a step, a run, a method -/
section XRUN
variable {p : Program} {l : Launch} {e : Env} {R : Room} {s : State} {m : MethodId} {args : Array Value} {below : List Frame} {meth : Method} {c : Code} {D : va_G} {cA : Nat → ClassId} {ad : Nat → Nat} {ρ : Nat → Int32} {fm : Value} {A : Nat → Prop} {n0 : Nat} {mi : xMI} {LF : List xLf}
variable {pc : Nat} {lo : List (Option Value)} {st : List Value} {C : List xCel} {rg : xRG} {uc us : Nat}
theorem z_end (hE : xEnv p l e R s m args below meth c D cA ad fm A n0 mi) {v : Option Value} {st' : Value} (hA : ∀ q, A q → A q) {H : Heap} {locs : List Loc} (hR : xokR ρ rg) (hP : va_P D vwCl (xenc cA (xv ad ρ fm) ad C) H) (hD : va_D A (xenc cA (xv ad ρ fm) ad C)) (hS : va_S A s.heap H locs) (hn : C.length = n0 + mi.2.2.2.2.2.2.2.1 ∧ n0 + mi.2.2.2.2.2.2.2.1 ≤ xB) (hm : (v, C, rg) ∈ LF) (t : State) (ht : t.heap = H) (hW : s.WarmedH t.vm) : xQc D cA ad ρ fm A (n0 + mi.2.2.2.2.2.2.2.1) LF args s (.returned (v.map (xv ad ρ fm))) t :=
  ⟨⟨(v, C, rg), hm, hR, rfl, by rw [ht]; exact hP, va_K.moved hW.alike hE.2.2.2.2.2.1, hD, hn.1, hn.2⟩, hS.F ht⟩
theorem z_iret (hE : xEnv p l e R s m args below meth c D cA ad fm A n0 mi) (h2 : ¬ mi.2.2.2.2.2.1 = 2) (hdg : decode mi.2.1 pc = .ok (.ireturn, 1)) (h : xGood (xRn p l e R s m args below meth c D cA ad ρ fm A mi.2.2.2.2.1 n0 mi.2.2.2.2.2.2.2.1 mi.2.2.2.2.2.2.2.2.1 (MQ below (xQc D cA ad ρ fm A (n0 + mi.2.2.2.2.2.2.2.1) LF) args s mi.2.2.2.2.2.2.2.1 mi.2.2.2.2.2.2.2.2.1 A)) (fun lf => lf ∈ LF) (xret st C rg uc us mi.2.2.2.2.2.2.2.1 mi.2.2.2.2.2.2.2.2.1 mi.2.2.2.2.2.1)) : xRn p l e R s m args below meth c D cA ad ρ fm A mi.2.2.2.2.1 n0 mi.2.2.2.2.2.2.2.1 mi.2.2.2.2.2.2.2.2.1 (MQ below (xQc D cA ad ρ fm A (n0 + mi.2.2.2.2.2.2.2.1) LF) args s mi.2.2.2.2.2.2.2.1 mi.2.2.2.2.2.2.2.2.1 A) (pc, lo, st, C, rg, uc, us) := by
  have hE2 := hE
  obtain ⟨hx, hb, hml, hown, hts, hK, hX, hret, hlk, -⟩ := hE2
  unfold xret at h
  split at h
  · next v =>
    split at h
    · next hq =>
      obtain ⟨q1, q2, q3⟩ := hq
      intro H locs ls hR hL hP hD hS hn
      have hn1 : C.length = n0 + uc := hn.1
      have hn4 : n0 + uc ≤ xB := hn.2.2.2
      refine W.widen (k := mi.2.2.2.2.2.2.2.1) (n := mi.2.2.2.2.2.2.2.2.1) (by show uc ≤ _; omega) q2 ?_
      have hq : ∀ t : State, t.heap = H → s.WarmedH t.vm → xQc D cA ad ρ fm A (n0 + mi.2.2.2.2.2.2.2.1) LF args s (.returned (some (xv ad ρ fm v))) t := z_end (C := C) (rg := rg) hE (v := some v) (st' := v) (fun _ z => z) hR hP hD hS ⟨by omega, by omega⟩ h
      cases hrk : mi.2.2.2.2.2.1 with
      | zero => rw [hrk] at q3; cases q3
      | succ k =>
        rw [hrk] at q3 hret
        match k, q3, hret with
        | 0, q3, hret =>
          obtain ⟨x, ex⟩ := xv_I (ad := ad) (ρ := ρ) (fm := fm) (show xisI v = true from q3)
          simp only [List.map_cons, List.map_nil, ex] at hq ⊢
          exact W.iret hx hb hret hq hS.2.2 hdg hlk
        | 1, q3, hret => exact absurd (by rw [hrk]) h2
        | 2, q3, hret =>
          unfold xrfit at q3
          split at q3
          · next heq => simp at heq
          · next heq => simp at heq
          · split at q3
            · next x hxx =>
              rw [Bool.or_eq_true, beq_iff_eq, beq_iff_eq] at q3
              have hnar : narrow .boolean (.int x) = .int x := by rcases q3 with rfl | rfl <;> rfl
              exact W.zret hx hb hret hnar hq hS.2.2 hdg hlk
            · cases q3
          · next heq => simp at heq
          · next heq => simp at heq
          · next h1 h2 h3 h4 h5 => exact absurd rfl h3
        | 3, q3, hret =>
          unfold xrfit at q3
          split at q3
          · next heq => simp at heq
          · next heq => simp at heq
          · next heq => simp at heq
          · split at q3
            · next x hxx =>
              rw [beq_iff_eq] at q3
              have hnar : narrow .byte (.int x) = .int x := by
                show Value.int _ = _
                rw [q3]
              exact W.zret hx hb hret hnar hq hS.2.2 hdg hlk
            · cases q3
          · next heq => simp at heq
          · next h1 h2 h3 h4 h5 => exact absurd rfl h4
        | 4, q3, hret =>
          unfold xrfit at q3
          split at q3
          · next heq => simp at heq
          · next heq => simp at heq
          · next heq => simp at heq
          · next heq => simp at heq
          · split at q3
            · next x hxx =>
              exact W.zret hx hb hret (of_decide_eq_true q3) hq hS.2.2 hdg hlk
            · cases q3
          · next h1 h2 h3 h4 h5 => exact absurd rfl h5
        | k + 5, q3, hret =>
          unfold xrfit at q3
          split at q3
          · next heq => simp at heq
          · next heq => simp at heq
          · next heq => simp at heq
          · next heq => simp at heq
          · next heq => simp at heq
          · cases q3
    · exact absurd h id
  · exact absurd h id
theorem z_lret (hE : xEnv p l e R s m args below meth c D cA ad fm A n0 mi) (h2 : mi.2.2.2.2.2.1 = 2) (hdg : decode mi.2.1 pc = .ok (.lreturn, 1)) (h : xGood (xRn p l e R s m args below meth c D cA ad ρ fm A mi.2.2.2.2.1 n0 mi.2.2.2.2.2.2.2.1 mi.2.2.2.2.2.2.2.2.1 (MQ below (xQc D cA ad ρ fm A (n0 + mi.2.2.2.2.2.2.2.1) LF) args s mi.2.2.2.2.2.2.2.1 mi.2.2.2.2.2.2.2.2.1 A)) (fun lf => lf ∈ LF) (xret st C rg uc us mi.2.2.2.2.2.2.2.1 mi.2.2.2.2.2.2.2.2.1 mi.2.2.2.2.2.1)) : xRn p l e R s m args below meth c D cA ad ρ fm A mi.2.2.2.2.1 n0 mi.2.2.2.2.2.2.2.1 mi.2.2.2.2.2.2.2.2.1 (MQ below (xQc D cA ad ρ fm A (n0 + mi.2.2.2.2.2.2.2.1) LF) args s mi.2.2.2.2.2.2.2.1 mi.2.2.2.2.2.2.2.2.1 A) (pc, lo, st, C, rg, uc, us) := by
  have hE2 := hE
  obtain ⟨hx, hb, hml, hown, hts, hK, hX, hret, hlk, -⟩ := hE2
  unfold xret at h
  split at h
  · next v =>
    split at h
    · next hq =>
      obtain ⟨q1, q2, q3⟩ := hq
      rw [h2] at q3 hret
      intro H locs ls hR hL hP hD hS hn
      have hn1 : C.length = n0 + uc := hn.1
      have hn4 : n0 + uc ≤ xB := hn.2.2.2
      refine W.widen (k := mi.2.2.2.2.2.2.2.1) (n := mi.2.2.2.2.2.2.2.2.1) (by show uc ≤ _; omega) q2 ?_
      have hq : ∀ t : State, t.heap = H → s.WarmedH t.vm → xQc D cA ad ρ fm A (n0 + mi.2.2.2.2.2.2.2.1) LF args s (.returned (some (xv ad ρ fm v))) t := z_end (C := C) (rg := rg) hE (v := some v) (st' := v) (fun _ z => z) hR hP hD hS ⟨by omega, by omega⟩ h
      obtain ⟨x, ex⟩ := xv_L (ad := ad) (ρ := ρ) (fm := fm) (show xisL v = true from q3)
      simp only [List.map_cons, List.map_nil, ex] at hq ⊢
      exact W.lret hx hb hret hq hS.2.2 hdg hlk
    · exact absurd h id
  · exact absurd h id
theorem z_vret (hE : xEnv p l e R s m args below meth c D cA ad fm A n0 mi) (h0 : mi.2.2.2.2.2.1 = 0) (huc : uc = mi.2.2.2.2.2.2.2.1) (hus : us ≤ mi.2.2.2.2.2.2.2.2.1) (hdg : decode mi.2.1 pc = .ok (.return_, 1)) (h : (none, C, rg) ∈ LF) : xRn p l e R s m args below meth c D cA ad ρ fm A mi.2.2.2.2.1 n0 mi.2.2.2.2.2.2.2.1 mi.2.2.2.2.2.2.2.2.1 (MQ below (xQc D cA ad ρ fm A (n0 + mi.2.2.2.2.2.2.2.1) LF) args s mi.2.2.2.2.2.2.2.1 mi.2.2.2.2.2.2.2.2.1 A) (pc, lo, [], C, rg, uc, us) := by
  have hE2 := hE
  obtain ⟨hx, hb, hml, hown, hts, hK, hX, hret, hlk, -⟩ := hE2
  rw [h0] at hret
  intro H locs ls hR hL hP hD hS hn
  have hn1 : C.length = n0 + uc := hn.1
  have hn4 : n0 + uc ≤ xB := hn.2.2.2
  refine W.widen (k := mi.2.2.2.2.2.2.2.1) (n := mi.2.2.2.2.2.2.2.2.1) (by show uc ≤ _; omega) hus ?_
  have hq : ∀ t : State, t.heap = H → s.WarmedH t.vm → xQc D cA ad ρ fm A (n0 + mi.2.2.2.2.2.2.2.1) LF args s (.returned none) t := z_end (C := C) (rg := rg) hE (v := none) (st' := .null) (fun _ z => z) hR hP hD hS ⟨by omega, by omega⟩ h
  exact W.vret hx hb hret hq hS.2.2 hdg hlk
end XRUN
end
section
/-! the engine's run is the machine's -/
def xkdB : Bool := xmiL.all fun l => l.all fun mi => decide (mi.1.name = "<init>") == false || mi.2.2.2.2.2.2.1 == 2
set_option maxRecDepth 100000 in
theorem xkdB_ok : xkdB = true := by decide +kernel
theorem xkd_all (j : Nat) (mi' : xMI) (hj : xmi j = some mi') (hn : mi'.1.name = "<init>") : mi'.2.2.2.2.2.2.1 = 2 := by
  unfold xmi at hj
  rw [xnth_eq] at hj
  cases hl : xmiL[j / 16]? with
  | none => rw [hl] at hj; cases hj
  | some l =>
    rw [hl] at hj
    simp only [xnth_eq] at hj
    have h1 := List.all_eq_true.mp (List.all_eq_true.mp xkdB_ok l (List.mem_of_getElem? hl)) mi' (List.mem_of_getElem? hj)
    simpa [hn] using h1
theorem xnest_kd {own idx j : Nat} {mi' : xMI} (hj : xmi j = some mi') (h : (own, idx, mi'.1) ∈ xNest) : mi'.2.2.2.2.2.2.1 = 2 := by
  have hok := xmi_ok hj
  have hname : mi'.1.name = "<init>" := by
    simp only [xNest, List.mem_cons, List.not_mem_nil, or_false, Prod.mk.injEq] at h
    rcases h with ⟨-, -, h⟩ | ⟨-, -, h⟩ | ⟨-, -, h⟩ <;> rw [h] <;> rfl
  exact xkd_all j mi' hj hname
theorem xml_0 {own idx : Nat} (h : xml own idx = some 0) : Cond.methodLink (xcn own) idx objectInit ∈ wsL_law := by
  rcases xml_ok h with ⟨-, z⟩ | ⟨z, -⟩ | ⟨z, -⟩ | ⟨z, -⟩ | ⟨z, -⟩ | ⟨z, -⟩
  · exact z
  · exact absurd z (show ¬ (0 : Nat) = 1 by decide)
  · exact absurd z (show ¬ (0 : Nat) = 2 by decide)
  · exact absurd z (show ¬ (0 : Nat) = 3 by decide)
  · exact absurd z (show ¬ (0 : Nat) = 4 by decide)
  · exact absurd z (show ¬ 10 ≤ (0 : Nat) by decide)
theorem xml_1 {own idx : Nat} (h : xml own idx = some 1) : Cond.methodLink (xcn own) idx arraycopyName ∈ wsL_law := by
  rcases xml_ok h with ⟨z, -⟩ | ⟨-, z⟩ | ⟨z, -⟩ | ⟨z, -⟩ | ⟨z, -⟩ | ⟨z, -⟩
  · exact absurd z (show ¬ (1 : Nat) = 0 by decide)
  · exact z
  · exact absurd z (show ¬ (1 : Nat) = 2 by decide)
  · exact absurd z (show ¬ (1 : Nat) = 3 by decide)
  · exact absurd z (show ¬ (1 : Nat) = 4 by decide)
  · exact absurd z (show ¬ 10 ≤ (1 : Nat) by decide)
theorem xml_2 {own idx : Nat} (h : xml own idx = some 2) : Cond.methodLink (xcn own) idx Lib.Math.max.name ∈ wsL_law := by
  rcases xml_ok h with ⟨z, -⟩ | ⟨z, -⟩ | ⟨-, z⟩ | ⟨z, -⟩ | ⟨z, -⟩ | ⟨z, -⟩
  · exact absurd z (show ¬ (2 : Nat) = 0 by decide)
  · exact absurd z (show ¬ (2 : Nat) = 1 by decide)
  · exact z
  · exact absurd z (show ¬ (2 : Nat) = 3 by decide)
  · exact absurd z (show ¬ (2 : Nat) = 4 by decide)
  · exact absurd z (show ¬ 10 ≤ (2 : Nat) by decide)
theorem xml_3 {own idx : Nat} (h : xml own idx = some 3) : Cond.methodLink (xcn own) idx Lib.Math.min.name ∈ wsL_law := by
  rcases xml_ok h with ⟨z, -⟩ | ⟨z, -⟩ | ⟨z, -⟩ | ⟨-, z⟩ | ⟨z, -⟩ | ⟨z, -⟩
  · exact absurd z (show ¬ (3 : Nat) = 0 by decide)
  · exact absurd z (show ¬ (3 : Nat) = 1 by decide)
  · exact absurd z (show ¬ (3 : Nat) = 2 by decide)
  · exact z
  · exact absurd z (show ¬ (3 : Nat) = 4 by decide)
  · exact absurd z (show ¬ 10 ≤ (3 : Nat) by decide)
theorem xml_4 {own idx : Nat} (h : xml own idx = some 4) : Cond.methodLink (xcn own) idx Lib.Math.abs.name ∈ wsL_law := by
  rcases xml_ok h with ⟨z, -⟩ | ⟨z, -⟩ | ⟨z, -⟩ | ⟨z, -⟩ | ⟨-, z⟩ | ⟨z, -⟩
  · exact absurd z (show ¬ (4 : Nat) = 0 by decide)
  · exact absurd z (show ¬ (4 : Nat) = 1 by decide)
  · exact absurd z (show ¬ (4 : Nat) = 2 by decide)
  · exact absurd z (show ¬ (4 : Nat) = 3 by decide)
  · exact z
  · exact absurd z (show ¬ 10 ≤ (4 : Nat) by decide)
theorem xml_5 {own idx j : Nat} (h : xml own idx = some j) (h0 : j ≠ 0) (h1 : j ≠ 1) (h2 : j ≠ 2) (h3 : j ≠ 3) (h4 : j ≠ 4) : ∃ nm, (xmi (j - 10)).map (fun mi => mi.1) = some nm ∧ (Cond.methodLink (xcn own) idx nm ∈ wsL_law ∨ (own, idx, nm) ∈ xNest) := by
  rcases xml_ok h with ⟨z, -⟩ | ⟨z, -⟩ | ⟨z, -⟩ | ⟨z, -⟩ | ⟨z, -⟩ | ⟨-, z⟩
  · exact absurd z h0
  · exact absurd z h1
  · exact absurd z h2
  · exact absurd z h3
  · exact absurd z h4
  · exact z
section XEXEC
variable {p : Program} {l : Launch} {e : Env} {R : Room} {s : State} {m : MethodId} {args : Array Value} {below : List Frame} {meth : Method} {c : Code} {D : va_G} {cA : Nat → ClassId} {ad : Nat → Nat} {ρ : Nat → Int32} {fm : Value} {A : Nat → Prop} {n0 : Nat} {mi : xMI} {LF : List xLf}
variable {pc : Nat} {lo : List (Option Value)} {st : List Value} {C : List xCel} {rg : xRG} {uc us : Nat}
theorem z_lnk {own : Nat} (hts : ∀ w ∈ wsL_law, w.before args s = true) (hX : xExt ad fm A s s.heap) {idx j kd : Nat} (hm : xml own idx = some j) (h0 : j ≠ 0) (h1 : j ≠ 1) (h2 : j ≠ 2) (h3 : j ≠ 3) (h4 : j ≠ 4) {mi' : xMI} (hj : xmi (j - 10) = some mi') (hkd : mi'.2.2.2.2.2.2.1 = kd) : (Cond.methodLink (xcn own) idx mi'.1).before args s = true ∨ (kd = 2 ∧ va_Nw (.methodLinkNest (xcn own) idx mi'.1 "StreetTillTen") s) := by
  obtain ⟨nm, hnm, hl⟩ := xml_5 hm h0 h1 h2 h3 h4
  rw [hj] at hnm
  have e1 : mi'.1 = nm := Option.some.inj hnm
  rw [← e1] at hl
  rcases hl with hl | hl
  · exact Or.inl (hts _ hl)
  · have h9 := hX.2.2.2.2.2 (own, idx, mi'.1) hl
    exact Or.inr ⟨by rw [← hkd]; exact xnest_kd hj hl, h9⟩
theorem z_spec (hE : xEnv p l e R s m args below meth c D cA ad fm A n0 mi) {d : Nat} (hR : R.frames = d + 1 ∧ R.locals = 40 * (d + 1)) {call : Nat → List Value → List xCel → xRG → Option (List xLf)} (hcall : ∀ (j : Nat) (mi' : xMI) (as : List Value) (C : List xCel) (rg : xRG) (LF : List xLf), xmi j = some mi' → call j as C rg = some LF → xCt d mi' as C rg LF) {kd idx : Nat} (hdg : (kd = 0 ∧ decode mi.2.1 pc = .ok (.invokestatic idx, 3)) ∨ (kd = 1 ∧ decode mi.2.1 pc = .ok (.invokevirtual idx, 3)) ∨ (kd = 2 ∧ decode mi.2.1 pc = .ok (.invokespecial idx, 3))) (h : xGood (xRn p l e R s m args below meth c D cA ad ρ fm A mi.2.2.2.2.1 n0 mi.2.2.2.2.2.2.2.1 mi.2.2.2.2.2.2.2.2.1 (MQ below (xQc D cA ad ρ fm A (n0 + mi.2.2.2.2.2.2.2.1) LF) args s mi.2.2.2.2.2.2.2.1 mi.2.2.2.2.2.2.2.2.1 A)) (fun lf => lf ∈ LF) (xspec pc lo st C rg uc us kd mi.2.2.1 idx (xcall pc lo st C rg uc us call mi.2.2.2.2.2.2.2.1 mi.2.2.2.2.2.2.2.2.1 kd))) : xRn p l e R s m args below meth c D cA ad ρ fm A mi.2.2.2.2.1 n0 mi.2.2.2.2.2.2.2.1 mi.2.2.2.2.2.2.2.2.1 (MQ below (xQc D cA ad ρ fm A (n0 + mi.2.2.2.2.2.2.2.1) LF) args s mi.2.2.2.2.2.2.2.1 mi.2.2.2.2.2.2.2.2.1 A) (pc, lo, st, C, rg, uc, us) := by
  have hE2 := hE
  obtain ⟨hx, hb, hml, hown, hts, hK, hX, hret, hlk, hin, hroom, hrc, hrs, hF, hA, hAx, had⟩ := hE2
  unfold xspec at h
  split at h
  · next hm =>
    split at h
    · next a r =>
      split at h
      · next hq =>
        obtain ⟨rfl, hr4⟩ := hq
        have hl := xml_0 hm
        have hdg2 : decode mi.2.1 pc = .ok (.invokespecial idx, 3) := by
          rcases hdg with ⟨z, -⟩ | ⟨z, -⟩ | ⟨-, z⟩
          · omega
          · omega
          · exact z
        intro H locs ls hR' hL hP hD hS hn
        have hsum : ((r.map (xv ad ρ fm)).map fun v => v.category).sum ≤ 8 := xcat_sum hF r hr4
        exact W.objInit hx hb hown (hts _ hl) (hts _ xo0) (hts _ xo1) rfl (by rw [hml]; exact hL.1) rfl hdg2 hroom.1 (by show 2 * 0 + _ + 12 ≤ _; have := hroom.2; omega) (h H locs ls hR' hL hP hD hS hn)
      · exact absurd h id
    · exact absurd h id
  · next hm =>
    split at h
    · next hq =>
      subst hq
      have hl := xml_1 hm
      have hdg2 : decode mi.2.1 pc = .ok (.invokestatic idx, 3) := by
        rcases hdg with ⟨-, z⟩ | ⟨z, -⟩ | ⟨z, -⟩
        · exact z
        · omega
        · omega
      exact z_copy hE hl hdg2 h
    · exact absurd h id
  · next hm =>
    split at h
    · next hq =>
      subst hq
      have hl := xml_2 hm
      have hdg2 : decode mi.2.1 pc = .ok (.invokestatic idx, 3) := by
        rcases hdg with ⟨-, z⟩ | ⟨z, -⟩ | ⟨z, -⟩
        · exact z
        · omega
        · omega
      exact z_max hE hl hdg2 h
    · exact absurd h id
  · next hm =>
    split at h
    · next hq =>
      subst hq
      have hl := xml_3 hm
      have hdg2 : decode mi.2.1 pc = .ok (.invokestatic idx, 3) := by
        rcases hdg with ⟨-, z⟩ | ⟨z, -⟩ | ⟨z, -⟩
        · exact z
        · omega
        · omega
      exact z_min hE hl hdg2 h
    · exact absurd h id
  · next hm =>
    split at h
    · next hq =>
      subst hq
      have hl := xml_4 hm
      have hdg2 : decode mi.2.1 pc = .ok (.invokestatic idx, 3) := by
        rcases hdg with ⟨-, z⟩ | ⟨z, -⟩ | ⟨z, -⟩
        · exact z
        · omega
        · omega
      exact z_abs hE hl hdg2 h
    · exact absurd h id
  · next j n0' n1' n2' n3' n4' hm =>
    refine z_call hE hR hcall (j := j - 10) (idx := idx) (kd := kd) (fun mi' hj hkd => ?_) hdg h
    exact z_lnk hts hX hm n0' n1' n2' n3' n4' hj hkd
  · exact absurd h id
end XEXEC
end
section
/-! the whole of it: a run of the engine is a contract -/
section XMAIN
variable {p : Program} {l : Launch} {e : Env} {R : Room} {s : State} {m : MethodId} {args : Array Value} {below : List Frame} {meth : Method} {c : Code} {D : va_G} {cA : Nat → ClassId} {ad : Nat → Nat} {ρ : Nat → Int32} {fm : Value} {A : Nat → Prop} {n0 : Nat} {mi : xMI} {LF : List xLf}
variable {pc : Nat} {lo : List (Option Value)} {st : List Value} {C : List xCel} {rg : xRG} {uc us : Nat}
set_option maxHeartbeats 4000000 in
theorem z_stepI (hE : xEnv p l e R s m args below meth c D cA ad fm A n0 mi) {d : Nat} (hR : R.frames = d + 1 ∧ R.locals = 40 * (d + 1)) {call : Nat → List Value → List xCel → xRG → Option (List xLf)} (hcall : ∀ (j : Nat) (mi' : xMI) (as : List Value) (C : List xCel) (rg : xRG) (LF : List xLf), xmi j = some mi' → call j as C rg = some LF → xCt d mi' as C rg LF) {I : Instr} {len : Nat} (hdg : decode mi.2.1 pc = .ok (I, len)) (hlen : xlen I = 0 ∨ len = xlen I) (h : xGood (xRn p l e R s m args below meth c D cA ad ρ fm A mi.2.2.2.2.1 n0 mi.2.2.2.2.2.2.2.1 mi.2.2.2.2.2.2.2.2.1 (MQ below (xQc D cA ad ρ fm A (n0 + mi.2.2.2.2.2.2.2.1) LF) args s mi.2.2.2.2.2.2.2.1 mi.2.2.2.2.2.2.2.2.1 A)) (fun lf => lf ∈ LF) (xstepI call mi.2.2.1 mi.2.2.2.2.1 mi.2.2.2.2.2.1 mi.2.2.2.2.2.2.1 mi.2.2.2.2.2.2.2.1 mi.2.2.2.2.2.2.2.2.1 I len pc lo st C rg uc us)) : xRn p l e R s m args below meth c D cA ad ρ fm A mi.2.2.2.2.1 n0 mi.2.2.2.2.2.2.2.1 mi.2.2.2.2.2.2.2.2.1 (MQ below (xQc D cA ad ρ fm A (n0 + mi.2.2.2.2.2.2.2.1) LF) args s mi.2.2.2.2.2.2.2.1 mi.2.2.2.2.2.2.2.2.1 A) (pc, lo, st, C, rg, uc, us) := by
  cases I with
  | tableswitch d' low hi offs => exact z_table hE hdg h
  | lookupswitch d' ps => exact z_look hE hdg h
  | iload_n k => rcases hlen with z | rfl; (· cases z); exact z_iload_n hE hdg h
  | iload i => rcases hlen with z | rfl; (· cases z); exact z_iload hE hdg h
  | aload_n k => rcases hlen with z | rfl; (· cases z); exact z_aload_n hE hdg h
  | aload i => rcases hlen with z | rfl; (· cases z); exact z_aload hE hdg h
  | lload_n k => rcases hlen with z | rfl; (· cases z); exact z_lload_n hE hdg h
  | lload i => rcases hlen with z | rfl; (· cases z); exact z_lload hE hdg h
  | istore_n k => rcases hlen with z | rfl; (· cases z); exact z_istore_n hE hdg h
  | istore i => rcases hlen with z | rfl; (· cases z); exact z_istore hE hdg h
  | astore_n k => rcases hlen with z | rfl; (· cases z); exact z_astore_n hE hdg h
  | astore i => rcases hlen with z | rfl; (· cases z); exact z_astore hE hdg h
  | lstore_n k => rcases hlen with z | rfl; (· cases z); exact z_lstore_n hE hdg h
  | lstore i => rcases hlen with z | rfl; (· cases z); exact z_lstore hE hdg h
  | iconst n =>
    rcases hlen with z | rfl; (· cases z)
    intro H locs ls hR' hL hP hD hS hn
    exact lv_iconst hE.1 hE.2.1 hdg rfl (h H locs ls hR' hL hP hD hS hn)
  | bipush n =>
    rcases hlen with z | rfl; (· cases z)
    intro H locs ls hR' hL hP hD hS hn
    exact lv_bipush hE.1 hE.2.1 hdg rfl (h H locs ls hR' hL hP hD hS hn)
  | sipush n =>
    rcases hlen with z | rfl; (· cases z)
    intro H locs ls hR' hL hP hD hS hn
    exact lv_sipush hE.1 hE.2.1 hdg rfl (h H locs ls hR' hL hP hD hS hn)
  | lconst n =>
    rcases hlen with z | rfl; (· cases z)
    intro H locs ls hR' hL hP hD hS hn
    exact lv_lconst hE.1 hE.2.1 hdg rfl (h H locs ls hR' hL hP hD hS hn)
  | ldc idx =>
    rcases hlen with z | rfl; (· cases z)
    dsimp only [xstepI] at h
    split at h
    · next v hv => exact z_ldc hE hv hdg h
    · exact absurd h id
  | ldc_w idx =>
    rcases hlen with z | rfl; (· cases z)
    dsimp only [xstepI] at h
    split at h
    · next v hv =>
      intro H locs ls hR' hL hP hD hS hn
      exact lv_ldcw hE.1 hE.2.1 hE.2.2.2.1 (hE.2.2.2.2.1 _ (xco_ok hv)) hdg (h H locs ls hR' hL hP hD hS hn)
    · exact absurd h id
  | ldc2_w idx =>
    rcases hlen with z | rfl; (· cases z)
    dsimp only [xstepI] at h
    split at h
    · next v hv =>
      intro H locs ls hR' hL hP hD hS hn
      exact lv_ldc2 hE.1 hE.2.1 hE.2.2.2.1 (hE.2.2.2.2.1 _ (xcoL_ok hv)) hdg (h H locs ls hR' hL hP hD hS hn)
    · exact absurd h id
  | iadd => rcases hlen with z | rfl; (· cases z); exact z_add hE hdg h
  | isub =>
    rcases hlen with z | rfl; (· cases z)
    dsimp only [xstepI] at h
    refine z_bin ?_ h
    intro x y z hz H locs ls rest k
    cases hz
    exact lv_isub hE.1 hE.2.1 hdg k
  | imul =>
    rcases hlen with z | rfl; (· cases z)
    dsimp only [xstepI] at h
    refine z_bin ?_ h
    intro x y z hz H locs ls rest k
    cases hz
    exact lv_imul hE.1 hE.2.1 hdg k
  | iand =>
    rcases hlen with z | rfl; (· cases z)
    dsimp only [xstepI] at h
    refine z_bin ?_ h
    intro x y z hz H locs ls rest k
    cases hz
    exact lv_iand hE.1 hE.2.1 hdg k
  | ior =>
    rcases hlen with z | rfl; (· cases z)
    dsimp only [xstepI] at h
    refine z_bin ?_ h
    intro x y z hz H locs ls rest k
    cases hz
    exact lv_ior hE.1 hE.2.1 hdg k
  | ixor =>
    rcases hlen with z | rfl; (· cases z)
    dsimp only [xstepI] at h
    refine z_bin ?_ h
    intro x y z hz H locs ls rest k
    cases hz
    exact lv_ixor hE.1 hE.2.1 hdg k
  | ishl =>
    rcases hlen with z | rfl; (· cases z)
    dsimp only [xstepI] at h
    refine z_bin ?_ h
    intro x y z hz H locs ls rest k
    cases hz
    exact lv_ishl hE.1 hE.2.1 hdg k
  | ishr =>
    rcases hlen with z | rfl; (· cases z)
    dsimp only [xstepI] at h
    refine z_bin ?_ h
    intro x y z hz H locs ls rest k
    cases hz
    exact lv_ishr hE.1 hE.2.1 hdg k
  | iushr =>
    rcases hlen with z | rfl; (· cases z)
    dsimp only [xstepI] at h
    refine z_bin ?_ h
    intro x y z hz H locs ls rest k
    cases hz
    exact lv_iushr hE.1 hE.2.1 hdg rfl k
  | idiv =>
    rcases hlen with z | rfl; (· cases z)
    dsimp only [xstepI] at h
    refine z_bin ?_ h
    intro x y z hz H locs ls rest k
    split at hz
    · cases hz
    · next hne => cases hz; exact lv_idiv hE.1 hE.2.1 hdg hne k
  | irem =>
    rcases hlen with z | rfl; (· cases z)
    dsimp only [xstepI] at h
    refine z_bin ?_ h
    intro x y z hz H locs ls rest k
    split at hz
    · cases hz
    · next hne => cases hz; exact lv_irem hE.1 hE.2.1 hdg hne k
  | ineg =>
    rcases hlen with z | rfl; (· cases z)
    dsimp only [xstepI] at h
    refine z_un ?_ h
    intro x H locs ls rest k
    exact lv_ineg hE.1 hE.2.1 hdg k
  | i2b =>
    rcases hlen with z | rfl; (· cases z)
    dsimp only [xstepI] at h
    refine z_un ?_ h
    intro x H locs ls rest k
    exact lv_i2b hE.1 hE.2.1 hdg rfl k
  | i2s =>
    rcases hlen with z | rfl; (· cases z)
    dsimp only [xstepI] at h
    refine z_un ?_ h
    intro x H locs ls rest k
    exact lv_i2s hE.1 hE.2.1 hdg rfl k
  | i2c =>
    rcases hlen with z | rfl; (· cases z)
    dsimp only [xstepI] at h
    refine z_un ?_ h
    intro x H locs ls rest k
    exact lv_i2c hE.1 hE.2.1 hdg rfl k
  | ladd =>
    rcases hlen with z | rfl; (· cases z)
    dsimp only [xstepI] at h
    refine z_binL ?_ h
    intro x y z hz H locs ls rest k
    cases hz
    exact lv_ladd hE.1 hE.2.1 hdg k
  | lsub =>
    rcases hlen with z | rfl; (· cases z)
    dsimp only [xstepI] at h
    refine z_binL ?_ h
    intro x y z hz H locs ls rest k
    cases hz
    exact lv_lsub hE.1 hE.2.1 hdg k
  | lmul =>
    rcases hlen with z | rfl; (· cases z)
    dsimp only [xstepI] at h
    refine z_binL ?_ h
    intro x y z hz H locs ls rest k
    cases hz
    exact lv_lmul hE.1 hE.2.1 hdg k
  | ldiv =>
    rcases hlen with z | rfl; (· cases z)
    dsimp only [xstepI] at h
    refine z_binL ?_ h
    intro x y z hz H locs ls rest k
    split at hz
    · cases hz
    · next hne => cases hz; exact lv_ldiv hE.1 hE.2.1 hdg hne k
  | lrem =>
    rcases hlen with z | rfl; (· cases z)
    dsimp only [xstepI] at h
    refine z_binL ?_ h
    intro x y z hz H locs ls rest k
    split at hz
    · cases hz
    · next hne => cases hz; exact lv_lrem hE.1 hE.2.1 hdg hne k
  | i2l => rcases hlen with z | rfl; (· cases z); exact z_i2l hE hdg h
  | l2i => rcases hlen with z | rfl; (· cases z); exact z_l2i hE hdg h
  | lcmp => rcases hlen with z | rfl; (· cases z); exact z_lcmp hE hdg h
  | if_icmp cc off => rcases hlen with z | rfl; (· cases z); exact z_icmp hE hdg h
  | ifCond cc off => rcases hlen with z | rfl; (· cases z); exact z_if hE hdg h
  | goto off => rcases hlen with z | rfl; (· cases z); exact z_goto hE hdg h
  | iinc i n => rcases hlen with z | rfl; (· cases z); exact z_iinc hE hdg h
  | dup => rcases hlen with z | rfl; (· cases z); exact z_dup hE hdg h
  | dup2 => rcases hlen with z | rfl; (· cases z); exact z_dup2 hE hdg h
  | pop => rcases hlen with z | rfl; (· cases z); exact z_pop hE hdg h
  | getfield idx => rcases hlen with z | rfl; (· cases z); exact z_get hE hdg h
  | putfield idx => rcases hlen with z | rfl; (· cases z); exact z_put hE hdg h
  | getstatic idx => rcases hlen with z | rfl; (· cases z); exact z_gets hE hdg h
  | iaload => rcases hlen with z | rfl; (· cases z); exact z_iaload hE hdg h
  | baload => rcases hlen with z | rfl; (· cases z); exact z_baload hE hdg h
  | aaload => rcases hlen with z | rfl; (· cases z); exact z_aaload hE hdg h
  | iastore => rcases hlen with z | rfl; (· cases z); exact z_iastore hE hdg h
  | bastore => rcases hlen with z | rfl; (· cases z); exact z_bastore hE hdg h
  | aastore => rcases hlen with z | rfl; (· cases z); exact z_aastore hE hdg h
  | arraylength => rcases hlen with z | rfl; (· cases z); exact z_alen hE hdg h
  | new idx => rcases hlen with z | rfl; (· cases z); exact z_new hE hdg h
  | newarray at' =>
    rcases hlen with z | rfl; (· cases z)
    cases at' with
    | int => exact z_newa hE (atype := .int) (k0 := 0) (by decide) rfl rfl (by decide) xo9 hdg h
    | boolean => exact z_newa hE (atype := .boolean) (k0 := 1) (by decide) rfl rfl (by decide) xo10 hdg h
    | _ => exact absurd h id
  | anewarray idx => rcases hlen with z | rfl; (· cases z); exact z_newq hE hdg h
  | multianewarray idx dm =>
    rcases hlen with z | rfl; (· cases z)
    by_cases h2 : dm = 2
    · subst h2; exact z_new2 hE hdg h
    · exfalso
      unfold xstepI at h
      split at h <;> first | (simp_all; done) | exact absurd h id
  | invokestatic idx => rcases hlen with z | rfl; (· cases z); exact z_spec hE hR hcall (Or.inl ⟨rfl, hdg⟩) h
  | invokevirtual idx => rcases hlen with z | rfl; (· cases z); exact z_spec hE hR hcall (Or.inr (Or.inl ⟨rfl, hdg⟩)) h
  | invokespecial idx => rcases hlen with z | rfl; (· cases z); exact z_spec hE hR hcall (Or.inr (Or.inr ⟨rfl, hdg⟩)) h
  | ireturn =>
    rcases hlen with z | rfl; (· cases z)
    dsimp only [xstepI] at h
    split at h
    · exact absurd h id
    · next h2 => exact z_iret hE h2 hdg h
  | lreturn =>
    rcases hlen with z | rfl; (· cases z)
    dsimp only [xstepI] at h
    split at h
    · next h2 => exact z_lret hE h2 hdg h
    · exact absurd h id
  | return_ =>
    rcases hlen with z | rfl; (· cases z)
    dsimp only [xstepI] at h
    split at h
    · next hq =>
      split at h
      · exact z_vret hE hq.1 hq.2.1 hq.2.2 hdg h
      · exact absurd h id
    · exact absurd h id
  | _ => exact absurd h id
theorem z_run (hE : xEnv p l e R s m args below meth c D cA ad fm A n0 mi) (hmi : xMIok mi) {d : Nat} (hR : R.frames = d + 1 ∧ R.locals = 40 * (d + 1)) {call : Nat → List Value → List xCel → xRG → Option (List xLf)} (hcall : ∀ (j : Nat) (mi' : xMI) (as : List Value) (C : List xCel) (rg : xRG) (LF : List xLf), xmi j = some mi' → call j as C rg = some LF → xCt d mi' as C rg LF) : ∀ (k : Nat) (f : xFr) (lfs : List xLf), xrun call mi k f = some lfs → (∀ lf ∈ lfs, lf ∈ LF) → xRn p l e R s m args below meth c D cA ad ρ fm A mi.2.2.2.2.1 n0 mi.2.2.2.2.2.2.2.1 mi.2.2.2.2.2.2.2.2.1 (MQ below (xQc D cA ad ρ fm A (n0 + mi.2.2.2.2.2.2.2.1) LF) args s mi.2.2.2.2.2.2.2.1 mi.2.2.2.2.2.2.2.2.1 A) f := by
  have stp : ∀ f : xFr, xGood (xRn p l e R s m args below meth c D cA ad ρ fm A mi.2.2.2.2.1 n0 mi.2.2.2.2.2.2.2.1 mi.2.2.2.2.2.2.2.2.1 (MQ below (xQc D cA ad ρ fm A (n0 + mi.2.2.2.2.2.2.2.1) LF) args s mi.2.2.2.2.2.2.2.1 mi.2.2.2.2.2.2.2.2.1 A)) (fun lf => lf ∈ LF) (xstep call mi f) → xRn p l e R s m args below meth c D cA ad ρ fm A mi.2.2.2.2.1 n0 mi.2.2.2.2.2.2.2.1 mi.2.2.2.2.2.2.2.2.1 (MQ below (xQc D cA ad ρ fm A (n0 + mi.2.2.2.2.2.2.2.1) LF) args s mi.2.2.2.2.2.2.2.1 mi.2.2.2.2.2.2.2.2.1 A) f := by
    intro f h
    obtain ⟨pc, lo, st, C, rg, uc, us⟩ := f
    dsimp only [xstep] at h
    rw [xfN_eq] at h
    have h3 : xGood (xRn p l e R s m args below meth c D cA ad ρ fm A mi.2.2.2.2.1 n0 mi.2.2.2.2.2.2.2.1 mi.2.2.2.2.2.2.2.2.1 (MQ below (xQc D cA ad ρ fm A (n0 + mi.2.2.2.2.2.2.2.1) LF) args s mi.2.2.2.2.2.2.2.1 mi.2.2.2.2.2.2.2.2.1 A)) (fun lf => lf ∈ LF) (match xfetch mi.2.2.2.2.2.2.2.2.2 pc with
      | some (I, len) => xstepI call mi.2.2.1 mi.2.2.2.2.1 mi.2.2.2.2.2.1 mi.2.2.2.2.2.2.1 mi.2.2.2.2.2.2.2.1 mi.2.2.2.2.2.2.2.2.1 I len pc lo st C rg uc us
      | none => none) := h
    split at h3
    · next I len hf =>
      obtain ⟨h1, h2⟩ := hmi.2.2.2.2.2.2.2.2.2.2.2 pc (I, len) hf
      exact z_stepI hE hR hcall h1 h2 h3
    · exact absurd h3 id
  intro k
  induction k with
  | zero => intro f lfs h; cases h
  | succ k ih =>
    intro f lfs h hin
    refine stp f ?_
    unfold xrun at h
    split at h
    · cases h
    · next f' hf => rw [hf]; exact ih f' lfs h hin
    · next r hf => rw [hf]; cases h; exact hin r List.mem_cons_self
    · next fs hf =>
      rw [hf]
      have hall : ∀ (fs : List xFr) (lfs : List xLf), xall (xrun call mi k) fs = some lfs → (∀ lf ∈ lfs, lf ∈ LF) → ∀ f ∈ fs, xRn p l e R s m args below meth c D cA ad ρ fm A mi.2.2.2.2.1 n0 mi.2.2.2.2.2.2.2.1 mi.2.2.2.2.2.2.2.2.1 (MQ below (xQc D cA ad ρ fm A (n0 + mi.2.2.2.2.2.2.2.1) LF) args s mi.2.2.2.2.2.2.2.1 mi.2.2.2.2.2.2.2.2.1 A) f := by
        intro fs
        induction fs with
        | nil => intro lfs _ _ f hf; cases hf
        | cons g gs ihg =>
          intro lfs hx hin2 f hf
          unfold xall at hx
          split at hx
          · cases hx
          · next a ha =>
            split at hx
            · cases hx
            · next b hb =>
              cases hx
              rcases List.mem_cons.mp hf with rfl | hf
              · exact ih _ a ha (fun lf hl => hin2 lf (List.mem_append_left _ hl))
              · exact ihg b hb (fun lf hl => hin2 lf (List.mem_append_right _ hl)) f hf
      exact hall fs lfs h hin
end XMAIN
theorem xwid_len {ad : Nat → Nat} {ρ : Nat → Int32} {fm : Value} (hF : xokF fm) : ∀ as : List Value, (lg_sl (as.map (xv ad ρ fm))).length = xwid as
  | [] => rfl
  | v :: vs => by
    have ih := xwid_len (ad := ad) (ρ := ρ) hF vs
    have hc := xv_cat (ad := ad) (ρ := ρ) hF v
    unfold lg_sl at ih ⊢
    rw [List.map_cons, List.flatMap_cons, List.length_append, ih]
    show _ + xwid vs = (if xc2 v = true then 2 else 1) + xwid vs
    by_cases h : xc2 v = true
    · rw [if_pos h] at hc
      rw [if_pos hc, if_pos h]; rfl
    · rw [if_neg h] at hc
      rw [if_neg (by omega), if_neg h]; rfl
theorem xlocs_in {ad : Nat → Nat} {ρ : Nat → Int32} {fm : Value} (hF : xokF fm) : ∀ (as : List Value) (n i0 i : Nat) (v : Value), (xlocs n as)[i]? = some (some v) → (i0 + i, xv ad ρ fm v) ∈ lv_args i0 (as.map (xv ad ρ fm))
  | [], n, i0, i, v, h => by
    unfold xlocs at h
    rw [List.getElem?_replicate] at h
    split at h <;> cases h
  | w :: ws, n, i0, i, v, h => by
    have hc := xv_cat (ad := ad) (ρ := ρ) hF w
    unfold xlocs at h
    rw [List.map_cons, lv_args]
    by_cases h2 : xc2 w = true
    · rw [if_pos h2] at h hc
      rw [if_pos hc]
      match i, h with
      | 0, h => cases h; exact List.mem_cons_self
      | 1, h => cases h
      | i + 2, h =>
        refine List.mem_cons_of_mem _ ?_
        have := xlocs_in (ad := ad) (ρ := ρ) hF ws (n - 2) (i0 + 2) i v h
        rw [show i0 + (i + 2) = i0 + 2 + i by omega]
        exact this
    · rw [if_neg h2] at h hc
      rw [if_neg (by omega)]
      match i, h with
      | 0, h => cases h; exact List.mem_cons_self
      | i + 1, h =>
        refine List.mem_cons_of_mem _ ?_
        have := xlocs_in (ad := ad) (ρ := ρ) hF ws (n - 1) (i0 + 1) i v h
        rw [show i0 + (i + 1) = i0 + 1 + i by omega]
        exact this
/-- A RUN OF THE ENGINE IS A CONTRACT OF THE MACHINE -/
theorem xexec_ok (k : Nat) : ∀ (d j : Nat) (mi : xMI) (as : List Value) (C : List xCel) (rg : xRG) (LF : List xLf), xmi j = some mi → xexec k d j as C rg = some LF → xCt d mi as C rg LF := by
  intro d
  induction d with
  | zero => intro j mi as C rg LF _ h; cases h
  | succ d ih =>
    intro j mi as C rg LF hj h
    have hmi := xmi_ok hj
    unfold xexec at h
    simp only [hj] at h
    split at h
    · next hw =>
      intro l D cA ad ρ fm sz hF hR hB had
      obtain ⟨o1, o2, o3, o4, o5, o6, o7, o8, o9, o10, o11, o12⟩ := id hmi
      refine Met.ofW (cc := mi.2.1) (maxL := mi.2.2.2.2.1) (ret := xrt mi.2.2.2.2.2.1) o1 rfl ?_
      intro p e s m args below meth c s₁ B hml hv
      obtain ⟨rfl, hsz, hP, hK, hD0, hX⟩ := hv
      have hts0 := atoms_spec (ws := xws mi) B.pre
      have hts : ∀ w ∈ wsL_law, w.before ((as.map (xv ad ρ fm)).toArray) s = true := fun w hw => hts0 w (List.mem_cons_of_mem _ hw)
      subst hsz
      have hD := hD0.self (sz := s.heap.size)
      have hl := lv_entry (as.map (xv ad ρ fm)) (n := mi.2.2.2.2.1) (by rw [xwid_len hF]; exact hw)
      rw [lg_entry_eq]
      generalize (lg_sl (as.map (xv ad ρ fm)) ++ List.replicate (mi.2.2.2.2.1 - (lg_sl (as.map (xv ad ρ fm))).length) Slot.unset).toArray = ls at hl ⊢
      have hL : xLV (xv ad ρ fm) ls mi.2.2.2.2.1 (xlocs mi.2.2.2.2.1 as) := ⟨hl.1, hl.2.1, fun i v hi => by
        have := xlocs_in (ad := ad) (ρ := ρ) hF as mi.2.2.2.2.1 0 i v hi
        rw [Nat.zero_add] at this
        exact hl.2.2 _ this⟩
      have hown : s.vm.findClass (xcn mi.2.2.1) = some m.cls := by
        rw [← o2]; exact findClass_of_methodNamed B.named
      have hE : xEnv p l e (headSpec (xws mi) (xrm (d + 1) mi)).room s m (as.map (xv ad ρ fm)).toArray below meth c D cA ad fm (va_A (xenc cA (xv ad ρ fm) ad C) s.heap.size) C.length mi :=
        ⟨B.exec, B.bytes, hml, hown, hts, hK, hX, B.returns, B.notSynchronized, fun h2 => by rw [(name_of_methodNamed B.named B.method).1]; exact (o11 h2).1, ⟨by show 1 ≤ d + 1; omega, by show 40 ≤ 40 * (d + 1); omega⟩, rfl, rfl, hF, fun q hq => Or.inr hq, fun q hq => by
          rcases hq with ⟨k1, ez, hk1⟩ | hq
          · obtain ⟨q2, g2, e2⟩ := xenc_of hk1
            have e3 : q = ad k1 := congrArg Prod.fst e2
            exact Or.inr ⟨k1, (List.getElem?_eq_some_iff.mp g2).1, e3⟩
          · exact Or.inl hq, had⟩
      have hrun := z_run (LF := LF) (ρ := ρ) hE hmi (d := d) ⟨rfl, rfl⟩ ih k _ LF h (fun lf hl => hl)
      exact hrun s.heap [] ls hR hL hP hD va_S.rf ⟨by rfl, Nat.zero_le _, Nat.zero_le _, hB⟩
    · cases h
end
section
theorem xend : True := trivial
end
