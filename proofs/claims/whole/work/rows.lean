section
-- ===== PART A: goes FIRST, ahead of the names: the tables' words, and 'selects' of the private methods out of them =====
/-- a private method of a class that the tables say can be made, by its rows of tables_1 -/
def lw_okq (q : MethodName × Nat) : Prop := (q.1.cls ≠ "java/lang/invoke/MethodHandle" ∧ q.1.cls ≠ "java/lang/invoke/VarHandle") ∧ Cond.instantiable q.1.cls q.2 ∈ tables_1 ∧ Cond.privateMethod q.1 ∈ tables_1 ∧ Cond.instanceMethod q.1 ∈ tables_1
theorem lw_p0 : lw_okq (⟨"EveningClasses$Season", "areWishes", "(III)Z"⟩, 14) := ⟨⟨by decide +kernel, by decide +kernel⟩, List.mem_of_getElem? (i := 26) (by decide +kernel), List.mem_of_getElem? (i := 332) (by decide +kernel), List.mem_of_getElem? (i := 333) (by decide +kernel)⟩
theorem lw_p1 : lw_okq (⟨"EveningClasses$Season", "settle", "()V"⟩, 14) := ⟨⟨by decide +kernel, by decide +kernel⟩, List.mem_of_getElem? (i := 26) (by decide +kernel), List.mem_of_getElem? (i := 344) (by decide +kernel), List.mem_of_getElem? (i := 345) (by decide +kernel)⟩
theorem lw_p2 : lw_okq (⟨"EveningClasses$Season", "betterFor", "(LEveningClasses$Person;)LEveningClasses$Course;"⟩, 14) := ⟨⟨by decide +kernel, by decide +kernel⟩, List.mem_of_getElem? (i := 26) (by decide +kernel), List.mem_of_getElem? (i := 352) (by decide +kernel), List.mem_of_getElem? (i := 353) (by decide +kernel)⟩
theorem lw_p3 : lw_okq (⟨"EveningClasses$Season", "goOut", "(LEveningClasses$Person;)V"⟩, 14) := ⟨⟨by decide +kernel, by decide +kernel⟩, List.mem_of_getElem? (i := 26) (by decide +kernel), List.mem_of_getElem? (i := 364) (by decide +kernel), List.mem_of_getElem? (i := 365) (by decide +kernel)⟩
theorem lw_p4 : lw_okq (⟨"EveningClasses$Season", "comeInto", "(LEveningClasses$Person;LEveningClasses$Course;)V"⟩, 14) := ⟨⟨by decide +kernel, by decide +kernel⟩, List.mem_of_getElem? (i := 26) (by decide +kernel), List.mem_of_getElem? (i := 372) (by decide +kernel), List.mem_of_getElem? (i := 373) (by decide +kernel)⟩
theorem lw_p5 : lw_okq (⟨"EveningClasses$Season", "smallestTooSmall", "()LEveningClasses$Course;"⟩, 14) := ⟨⟨by decide +kernel, by decide +kernel⟩, List.mem_of_getElem? (i := 26) (by decide +kernel), List.mem_of_getElem? (i := 412) (by decide +kernel), List.mem_of_getElem? (i := 413) (by decide +kernel)⟩
theorem lw_p6 : lw_okq (⟨"EveningClasses$Season", "cancel", "(LEveningClasses$Course;I)V"⟩, 14) := ⟨⟨by decide +kernel, by decide +kernel⟩, List.mem_of_getElem? (i := 26) (by decide +kernel), List.mem_of_getElem? (i := 436) (by decide +kernel), List.mem_of_getElem? (i := 437) (by decide +kernel)⟩
theorem lw_p7 : lw_okq (⟨"EveningClasses$Season", "merge", "(LEveningClasses$Course;LEveningClasses$Course;)V"⟩, 14) := ⟨⟨by decide +kernel, by decide +kernel⟩, List.mem_of_getElem? (i := 26) (by decide +kernel), List.mem_of_getElem? (i := 440) (by decide +kernel), List.mem_of_getElem? (i := 441) (by decide +kernel)⟩
theorem lw_p8 : lw_okq (⟨"EveningClasses$Season", "greatestOpen", "()LEveningClasses$Course;"⟩, 14) := ⟨⟨by decide +kernel, by decide +kernel⟩, List.mem_of_getElem? (i := 26) (by decide +kernel), List.mem_of_getElem? (i := 451) (by decide +kernel), List.mem_of_getElem? (i := 452) (by decide +kernel)⟩
theorem lw_p9 : lw_okq (⟨"EveningClasses$Season", "findsRoom", "(LEveningClasses$Course;)Z"⟩, 14) := ⟨⟨by decide +kernel, by decide +kernel⟩, List.mem_of_getElem? (i := 26) (by decide +kernel), List.mem_of_getElem? (i := 455) (by decide +kernel), List.mem_of_getElem? (i := 456) (by decide +kernel)⟩
theorem lw_p10 : lw_okq (⟨"EveningClasses$Season", "roomFor", "(LEveningClasses$Course;)I"⟩, 14) := ⟨⟨by decide +kernel, by decide +kernel⟩, List.mem_of_getElem? (i := 26) (by decide +kernel), List.mem_of_getElem? (i := 459) (by decide +kernel), List.mem_of_getElem? (i := 460) (by decide +kernel)⟩
theorem lw_p11 : lw_okq (⟨"EveningClasses$Season", "isGiven", "(II)Z"⟩, 14) := ⟨⟨by decide +kernel, by decide +kernel⟩, List.mem_of_getElem? (i := 26) (by decide +kernel), List.mem_of_getElem? (i := 467) (by decide +kernel), List.mem_of_getElem? (i := 468) (by decide +kernel)⟩
theorem lw_p12 : lw_okq (⟨"EveningClasses$Text", "wordAt", "(I)LEveningClasses$Word;"⟩, 7) := ⟨⟨by decide +kernel, by decide +kernel⟩, List.mem_of_getElem? (i := 218) (by decide +kernel), List.mem_of_getElem? (i := 634) (by decide +kernel), List.mem_of_getElem? (i := 635) (by decide +kernel)⟩
theorem lw_p13 : lw_okq (⟨"EveningClasses$Text", "isLetter", "(I)Z"⟩, 7) := ⟨⟨by decide +kernel, by decide +kernel⟩, List.mem_of_getElem? (i := 218) (by decide +kernel), List.mem_of_getElem? (i := 638) (by decide +kernel), List.mem_of_getElem? (i := 639) (by decide +kernel)⟩
theorem lw_p14 : lw_okq (⟨"EveningClasses$Text", "characterAt", "(I)C"⟩, 7) := ⟨⟨by decide +kernel, by decide +kernel⟩, List.mem_of_getElem? (i := 218) (by decide +kernel), List.mem_of_getElem? (i := 642) (by decide +kernel), List.mem_of_getElem? (i := 643) (by decide +kernel)⟩
theorem lw_p15 : lw_okq (⟨"EveningClasses$Text", "isBetween", "(Ljava/lang/String;II)Z"⟩, 7) := ⟨⟨by decide +kernel, by decide +kernel⟩, List.mem_of_getElem? (i := 218) (by decide +kernel), List.mem_of_getElem? (i := 648) (by decide +kernel), List.mem_of_getElem? (i := 649) (by decide +kernel)⟩
def lw_privs_1 : List (MethodName × Nat) := [(⟨"EveningClasses$Season", "areWishes", "(III)Z"⟩, 14), (⟨"EveningClasses$Season", "settle", "()V"⟩, 14), (⟨"EveningClasses$Season", "betterFor", "(LEveningClasses$Person;)LEveningClasses$Course;"⟩, 14), (⟨"EveningClasses$Season", "goOut", "(LEveningClasses$Person;)V"⟩, 14), (⟨"EveningClasses$Season", "comeInto", "(LEveningClasses$Person;LEveningClasses$Course;)V"⟩, 14), (⟨"EveningClasses$Season", "smallestTooSmall", "()LEveningClasses$Course;"⟩, 14), (⟨"EveningClasses$Season", "cancel", "(LEveningClasses$Course;I)V"⟩, 14), (⟨"EveningClasses$Season", "merge", "(LEveningClasses$Course;LEveningClasses$Course;)V"⟩, 14), (⟨"EveningClasses$Season", "greatestOpen", "()LEveningClasses$Course;"⟩, 14), (⟨"EveningClasses$Season", "findsRoom", "(LEveningClasses$Course;)Z"⟩, 14), (⟨"EveningClasses$Season", "roomFor", "(LEveningClasses$Course;)I"⟩, 14), (⟨"EveningClasses$Season", "isGiven", "(II)Z"⟩, 14), (⟨"EveningClasses$Text", "wordAt", "(I)LEveningClasses$Word;"⟩, 7), (⟨"EveningClasses$Text", "isLetter", "(I)Z"⟩, 7), (⟨"EveningClasses$Text", "characterAt", "(I)C"⟩, 7), (⟨"EveningClasses$Text", "isBetween", "(Ljava/lang/String;II)Z"⟩, 7)]
theorem lw_r1 : ∀ q ∈ lw_privs_1, lw_okq q := List.forall_mem_cons.mpr ⟨lw_p0, List.forall_mem_cons.mpr ⟨lw_p1, List.forall_mem_cons.mpr ⟨lw_p2, List.forall_mem_cons.mpr ⟨lw_p3, List.forall_mem_cons.mpr ⟨lw_p4, List.forall_mem_cons.mpr ⟨lw_p5, List.forall_mem_cons.mpr ⟨lw_p6, List.forall_mem_cons.mpr ⟨lw_p7, List.forall_mem_cons.mpr ⟨lw_p8, List.forall_mem_cons.mpr ⟨lw_p9, List.forall_mem_cons.mpr ⟨lw_p10, List.forall_mem_cons.mpr ⟨lw_p11, List.forall_mem_cons.mpr ⟨lw_p12, List.forall_mem_cons.mpr ⟨lw_p13, List.forall_mem_cons.mpr ⟨lw_p14, List.forall_mem_cons.mpr ⟨lw_p15, fun _ h => absurd h List.not_mem_nil⟩⟩⟩⟩⟩⟩⟩⟩⟩⟩⟩⟩⟩⟩⟩⟩
theorem lw_p16 : lw_okq (⟨"EveningClasses$Text", "readOrder", "(LEveningClasses$Word;I)I"⟩, 7) := ⟨⟨by decide +kernel, by decide +kernel⟩, List.mem_of_getElem? (i := 218) (by decide +kernel), List.mem_of_getElem? (i := 700) (by decide +kernel), List.mem_of_getElem? (i := 701) (by decide +kernel)⟩
theorem lw_p17 : lw_okq (⟨"EveningClasses$Text", "notFitting", "(II)I"⟩, 7) := ⟨⟨by decide +kernel, by decide +kernel⟩, List.mem_of_getElem? (i := 218) (by decide +kernel), List.mem_of_getElem? (i := 704) (by decide +kernel), List.mem_of_getElem? (i := 705) (by decide +kernel)⟩
theorem lw_p18 : lw_okq (⟨"EveningClasses$Text", "readNumbers", "(LEveningClasses$Word;II)I"⟩, 7) := ⟨⟨by decide +kernel, by decide +kernel⟩, List.mem_of_getElem? (i := 218) (by decide +kernel), List.mem_of_getElem? (i := 708) (by decide +kernel), List.mem_of_getElem? (i := 709) (by decide +kernel)⟩
theorem lw_p19 : lw_okq (⟨"EveningClasses$Text", "isDigit", "(I)Z"⟩, 7) := ⟨⟨by decide +kernel, by decide +kernel⟩, List.mem_of_getElem? (i := 218) (by decide +kernel), List.mem_of_getElem? (i := 712) (by decide +kernel), List.mem_of_getElem? (i := 713) (by decide +kernel)⟩
theorem lw_p20 : lw_okq (⟨"EveningClasses$Text", "answerTo", "(LEveningClasses$Word;LEveningClasses$Season;)I"⟩, 7) := ⟨⟨by decide +kernel, by decide +kernel⟩, List.mem_of_getElem? (i := 218) (by decide +kernel), List.mem_of_getElem? (i := 716) (by decide +kernel), List.mem_of_getElem? (i := 717) (by decide +kernel)⟩
theorem lw_p21 : lw_okq (⟨"EveningClasses$Text", "numberAt", "(I)I"⟩, 7) := ⟨⟨by decide +kernel, by decide +kernel⟩, List.mem_of_getElem? (i := 218) (by decide +kernel), List.mem_of_getElem? (i := 722) (by decide +kernel), List.mem_of_getElem? (i := 723) (by decide +kernel)⟩
theorem lw_p22 : lw_okq (⟨"EveningClassesModel", "putAside", "()V"⟩, 13) := ⟨⟨by decide +kernel, by decide +kernel⟩, List.mem_of_getElem? (i := 741) (by decide +kernel), List.mem_of_getElem? (i := 797) (by decide +kernel), List.mem_of_getElem? (i := 798) (by decide +kernel)⟩
theorem lw_p23 : lw_okq (⟨"EveningClassesModel", "change", "(I)I"⟩, 13) := ⟨⟨by decide +kernel, by decide +kernel⟩, List.mem_of_getElem? (i := 741) (by decide +kernel), List.mem_of_getElem? (i := 804) (by decide +kernel), List.mem_of_getElem? (i := 805) (by decide +kernel)⟩
theorem lw_p24 : lw_okq (⟨"EveningClassesModel", "putBack", "()V"⟩, 13) := ⟨⟨by decide +kernel, by decide +kernel⟩, List.mem_of_getElem? (i := 741) (by decide +kernel), List.mem_of_getElem? (i := 808) (by decide +kernel), List.mem_of_getElem? (i := 809) (by decide +kernel)⟩
theorem lw_p25 : lw_okq (⟨"EveningClassesModel", "comes", "(III)I"⟩, 13) := ⟨⟨by decide +kernel, by decide +kernel⟩, List.mem_of_getElem? (i := 741) (by decide +kernel), List.mem_of_getElem? (i := 820) (by decide +kernel), List.mem_of_getElem? (i := 821) (by decide +kernel)⟩
theorem lw_p26 : lw_okq (⟨"EveningClassesModel", "areWishes", "(III)Z"⟩, 13) := ⟨⟨by decide +kernel, by decide +kernel⟩, List.mem_of_getElem? (i := 741) (by decide +kernel), List.mem_of_getElem? (i := 824) (by decide +kernel), List.mem_of_getElem? (i := 825) (by decide +kernel)⟩
theorem lw_p27 : lw_okq (⟨"EveningClassesModel", "isCourse", "(I)Z"⟩, 13) := ⟨⟨by decide +kernel, by decide +kernel⟩, List.mem_of_getElem? (i := 741) (by decide +kernel), List.mem_of_getElem? (i := 828) (by decide +kernel), List.mem_of_getElem? (i := 829) (by decide +kernel)⟩
theorem lw_p28 : lw_okq (⟨"EveningClassesModel", "wishes", "(IIII)V"⟩, 13) := ⟨⟨by decide +kernel, by decide +kernel⟩, List.mem_of_getElem? (i := 741) (by decide +kernel), List.mem_of_getElem? (i := 835) (by decide +kernel), List.mem_of_getElem? (i := 836) (by decide +kernel)⟩
theorem lw_p29 : lw_okq (⟨"EveningClassesModel", "settle", "()V"⟩, 13) := ⟨⟨by decide +kernel, by decide +kernel⟩, List.mem_of_getElem? (i := 741) (by decide +kernel), List.mem_of_getElem? (i := 839) (by decide +kernel), List.mem_of_getElem? (i := 840) (by decide +kernel)⟩
theorem lw_p30 : lw_okq (⟨"EveningClassesModel", "better", "(I)I"⟩, 13) := ⟨⟨by decide +kernel, by decide +kernel⟩, List.mem_of_getElem? (i := 741) (by decide +kernel), List.mem_of_getElem? (i := 843) (by decide +kernel), List.mem_of_getElem? (i := 844) (by decide +kernel)⟩
theorem lw_p31 : lw_okq (⟨"EveningClassesModel", "isHere", "(I)Z"⟩, 13) := ⟨⟨by decide +kernel, by decide +kernel⟩, List.mem_of_getElem? (i := 741) (by decide +kernel), List.mem_of_getElem? (i := 847) (by decide +kernel), List.mem_of_getElem? (i := 848) (by decide +kernel)⟩
def lw_privs_2 : List (MethodName × Nat) := [(⟨"EveningClasses$Text", "readOrder", "(LEveningClasses$Word;I)I"⟩, 7), (⟨"EveningClasses$Text", "notFitting", "(II)I"⟩, 7), (⟨"EveningClasses$Text", "readNumbers", "(LEveningClasses$Word;II)I"⟩, 7), (⟨"EveningClasses$Text", "isDigit", "(I)Z"⟩, 7), (⟨"EveningClasses$Text", "answerTo", "(LEveningClasses$Word;LEveningClasses$Season;)I"⟩, 7), (⟨"EveningClasses$Text", "numberAt", "(I)I"⟩, 7), (⟨"EveningClassesModel", "putAside", "()V"⟩, 13), (⟨"EveningClassesModel", "change", "(I)I"⟩, 13), (⟨"EveningClassesModel", "putBack", "()V"⟩, 13), (⟨"EveningClassesModel", "comes", "(III)I"⟩, 13), (⟨"EveningClassesModel", "areWishes", "(III)Z"⟩, 13), (⟨"EveningClassesModel", "isCourse", "(I)Z"⟩, 13), (⟨"EveningClassesModel", "wishes", "(IIII)V"⟩, 13), (⟨"EveningClassesModel", "settle", "()V"⟩, 13), (⟨"EveningClassesModel", "better", "(I)I"⟩, 13), (⟨"EveningClassesModel", "isHere", "(I)Z"⟩, 13)]
theorem lw_r2 : ∀ q ∈ lw_privs_2, lw_okq q := List.forall_mem_cons.mpr ⟨lw_p16, List.forall_mem_cons.mpr ⟨lw_p17, List.forall_mem_cons.mpr ⟨lw_p18, List.forall_mem_cons.mpr ⟨lw_p19, List.forall_mem_cons.mpr ⟨lw_p20, List.forall_mem_cons.mpr ⟨lw_p21, List.forall_mem_cons.mpr ⟨lw_p22, List.forall_mem_cons.mpr ⟨lw_p23, List.forall_mem_cons.mpr ⟨lw_p24, List.forall_mem_cons.mpr ⟨lw_p25, List.forall_mem_cons.mpr ⟨lw_p26, List.forall_mem_cons.mpr ⟨lw_p27, List.forall_mem_cons.mpr ⟨lw_p28, List.forall_mem_cons.mpr ⟨lw_p29, List.forall_mem_cons.mpr ⟨lw_p30, List.forall_mem_cons.mpr ⟨lw_p31, fun _ h => absurd h List.not_mem_nil⟩⟩⟩⟩⟩⟩⟩⟩⟩⟩⟩⟩⟩⟩⟩⟩
theorem lw_p32 : lw_okq (⟨"EveningClassesModel", "rank", "(I)I"⟩, 13) := ⟨⟨by decide +kernel, by decide +kernel⟩, List.mem_of_getElem? (i := 741) (by decide +kernel), List.mem_of_getElem? (i := 851) (by decide +kernel), List.mem_of_getElem? (i := 852) (by decide +kernel)⟩
theorem lw_p33 : lw_okq (⟨"EveningClassesModel", "rankOf", "(II)I"⟩, 13) := ⟨⟨by decide +kernel, by decide +kernel⟩, List.mem_of_getElem? (i := 741) (by decide +kernel), List.mem_of_getElem? (i := 855) (by decide +kernel), List.mem_of_getElem? (i := 856) (by decide +kernel)⟩
theorem lw_p34 : lw_okq (⟨"EveningClassesModel", "hasFree", "(I)Z"⟩, 13) := ⟨⟨by decide +kernel, by decide +kernel⟩, List.mem_of_getElem? (i := 741) (by decide +kernel), List.mem_of_getElem? (i := 859) (by decide +kernel), List.mem_of_getElem? (i := 860) (by decide +kernel)⟩
theorem lw_p35 : lw_okq (⟨"EveningClassesModel", "isOpen", "(I)Z"⟩, 13) := ⟨⟨by decide +kernel, by decide +kernel⟩, List.mem_of_getElem? (i := 741) (by decide +kernel), List.mem_of_getElem? (i := 863) (by decide +kernel), List.mem_of_getElem? (i := 864) (by decide +kernel)⟩
theorem lw_p36 : lw_okq (⟨"EveningClassesModel", "people", "(I)I"⟩, 13) := ⟨⟨by decide +kernel, by decide +kernel⟩, List.mem_of_getElem? (i := 741) (by decide +kernel), List.mem_of_getElem? (i := 867) (by decide +kernel), List.mem_of_getElem? (i := 868) (by decide +kernel)⟩
theorem lw_p37 : lw_okq (⟨"EveningClassesModel", "goesOut", "(I)V"⟩, 13) := ⟨⟨by decide +kernel, by decide +kernel⟩, List.mem_of_getElem? (i := 741) (by decide +kernel), List.mem_of_getElem? (i := 871) (by decide +kernel), List.mem_of_getElem? (i := 872) (by decide +kernel)⟩
theorem lw_p38 : lw_okq (⟨"EveningClassesModel", "joins", "(II)V"⟩, 13) := ⟨⟨by decide +kernel, by decide +kernel⟩, List.mem_of_getElem? (i := 741) (by decide +kernel), List.mem_of_getElem? (i := 875) (by decide +kernel), List.mem_of_getElem? (i := 876) (by decide +kernel)⟩
theorem lw_p39 : lw_okq (⟨"EveningClassesModel", "changesWishes", "(IIII)I"⟩, 13) := ⟨⟨by decide +kernel, by decide +kernel⟩, List.mem_of_getElem? (i := 741) (by decide +kernel), List.mem_of_getElem? (i := 883) (by decide +kernel), List.mem_of_getElem? (i := 884) (by decide +kernel)⟩
theorem lw_p40 : lw_okq (⟨"EveningClassesModel", "isPerson", "(I)Z"⟩, 13) := ⟨⟨by decide +kernel, by decide +kernel⟩, List.mem_of_getElem? (i := 741) (by decide +kernel), List.mem_of_getElem? (i := 887) (by decide +kernel), List.mem_of_getElem? (i := 888) (by decide +kernel)⟩
theorem lw_p41 : lw_okq (⟨"EveningClassesModel", "leaves", "(I)I"⟩, 13) := ⟨⟨by decide +kernel, by decide +kernel⟩, List.mem_of_getElem? (i := 741) (by decide +kernel), List.mem_of_getElem? (i := 895) (by decide +kernel), List.mem_of_getElem? (i := 896) (by decide +kernel)⟩
theorem lw_p42 : lw_okq (⟨"EveningClassesModel", "closesTerm", "()I"⟩, 13) := ⟨⟨by decide +kernel, by decide +kernel⟩, List.mem_of_getElem? (i := 741) (by decide +kernel), List.mem_of_getElem? (i := 903) (by decide +kernel), List.mem_of_getElem? (i := 904) (by decide +kernel)⟩
theorem lw_p43 : lw_okq (⟨"EveningClassesModel", "closes", "()V"⟩, 13) := ⟨⟨by decide +kernel, by decide +kernel⟩, List.mem_of_getElem? (i := 741) (by decide +kernel), List.mem_of_getElem? (i := 907) (by decide +kernel), List.mem_of_getElem? (i := 908) (by decide +kernel)⟩
theorem lw_p44 : lw_okq (⟨"EveningClassesModel", "smallest", "()I"⟩, 13) := ⟨⟨by decide +kernel, by decide +kernel⟩, List.mem_of_getElem? (i := 741) (by decide +kernel), List.mem_of_getElem? (i := 911) (by decide +kernel), List.mem_of_getElem? (i := 912) (by decide +kernel)⟩
theorem lw_p45 : lw_okq (⟨"EveningClassesModel", "fitting", "(I)I"⟩, 13) := ⟨⟨by decide +kernel, by decide +kernel⟩, List.mem_of_getElem? (i := 741) (by decide +kernel), List.mem_of_getElem? (i := 915) (by decide +kernel), List.mem_of_getElem? (i := 916) (by decide +kernel)⟩
theorem lw_p46 : lw_okq (⟨"EveningClassesModel", "levelsApart", "(II)I"⟩, 13) := ⟨⟨by decide +kernel, by decide +kernel⟩, List.mem_of_getElem? (i := 741) (by decide +kernel), List.mem_of_getElem? (i := 919) (by decide +kernel), List.mem_of_getElem? (i := 920) (by decide +kernel)⟩
theorem lw_p47 : lw_okq (⟨"EveningClassesModel", "cancels", "(II)V"⟩, 13) := ⟨⟨by decide +kernel, by decide +kernel⟩, List.mem_of_getElem? (i := 741) (by decide +kernel), List.mem_of_getElem? (i := 923) (by decide +kernel), List.mem_of_getElem? (i := 924) (by decide +kernel)⟩
def lw_privs_3 : List (MethodName × Nat) := [(⟨"EveningClassesModel", "rank", "(I)I"⟩, 13), (⟨"EveningClassesModel", "rankOf", "(II)I"⟩, 13), (⟨"EveningClassesModel", "hasFree", "(I)Z"⟩, 13), (⟨"EveningClassesModel", "isOpen", "(I)Z"⟩, 13), (⟨"EveningClassesModel", "people", "(I)I"⟩, 13), (⟨"EveningClassesModel", "goesOut", "(I)V"⟩, 13), (⟨"EveningClassesModel", "joins", "(II)V"⟩, 13), (⟨"EveningClassesModel", "changesWishes", "(IIII)I"⟩, 13), (⟨"EveningClassesModel", "isPerson", "(I)Z"⟩, 13), (⟨"EveningClassesModel", "leaves", "(I)I"⟩, 13), (⟨"EveningClassesModel", "closesTerm", "()I"⟩, 13), (⟨"EveningClassesModel", "closes", "()V"⟩, 13), (⟨"EveningClassesModel", "smallest", "()I"⟩, 13), (⟨"EveningClassesModel", "fitting", "(I)I"⟩, 13), (⟨"EveningClassesModel", "levelsApart", "(II)I"⟩, 13), (⟨"EveningClassesModel", "cancels", "(II)V"⟩, 13)]
theorem lw_r3 : ∀ q ∈ lw_privs_3, lw_okq q := List.forall_mem_cons.mpr ⟨lw_p32, List.forall_mem_cons.mpr ⟨lw_p33, List.forall_mem_cons.mpr ⟨lw_p34, List.forall_mem_cons.mpr ⟨lw_p35, List.forall_mem_cons.mpr ⟨lw_p36, List.forall_mem_cons.mpr ⟨lw_p37, List.forall_mem_cons.mpr ⟨lw_p38, List.forall_mem_cons.mpr ⟨lw_p39, List.forall_mem_cons.mpr ⟨lw_p40, List.forall_mem_cons.mpr ⟨lw_p41, List.forall_mem_cons.mpr ⟨lw_p42, List.forall_mem_cons.mpr ⟨lw_p43, List.forall_mem_cons.mpr ⟨lw_p44, List.forall_mem_cons.mpr ⟨lw_p45, List.forall_mem_cons.mpr ⟨lw_p46, List.forall_mem_cons.mpr ⟨lw_p47, fun _ h => absurd h List.not_mem_nil⟩⟩⟩⟩⟩⟩⟩⟩⟩⟩⟩⟩⟩⟩⟩⟩
theorem lw_p48 : lw_okq (⟨"EveningClassesModel", "merges", "(II)V"⟩, 13) := ⟨⟨by decide +kernel, by decide +kernel⟩, List.mem_of_getElem? (i := 741) (by decide +kernel), List.mem_of_getElem? (i := 927) (by decide +kernel), List.mem_of_getElem? (i := 928) (by decide +kernel)⟩
theorem lw_p49 : lw_okq (⟨"EveningClassesModel", "greatest", "()I"⟩, 13) := ⟨⟨by decide +kernel, by decide +kernel⟩, List.mem_of_getElem? (i := 741) (by decide +kernel), List.mem_of_getElem? (i := 931) (by decide +kernel), List.mem_of_getElem? (i := 932) (by decide +kernel)⟩
theorem lw_p50 : lw_okq (⟨"EveningClassesModel", "roomFor", "(I)I"⟩, 13) := ⟨⟨by decide +kernel, by decide +kernel⟩, List.mem_of_getElem? (i := 741) (by decide +kernel), List.mem_of_getElem? (i := 935) (by decide +kernel), List.mem_of_getElem? (i := 936) (by decide +kernel)⟩
theorem lw_p51 : lw_okq (⟨"EveningClassesModel", "isTaken", "(II)Z"⟩, 13) := ⟨⟨by decide +kernel, by decide +kernel⟩, List.mem_of_getElem? (i := 741) (by decide +kernel), List.mem_of_getElem? (i := 939) (by decide +kernel), List.mem_of_getElem? (i := 940) (by decide +kernel)⟩
theorem lw_p52 : lw_okq (⟨"EveningClassesModel", "inState", "(I)I"⟩, 13) := ⟨⟨by decide +kernel, by decide +kernel⟩, List.mem_of_getElem? (i := 741) (by decide +kernel), List.mem_of_getElem? (i := 943) (by decide +kernel), List.mem_of_getElem? (i := 944) (by decide +kernel)⟩
theorem lw_p53 : lw_okq (⟨"EveningClassesModel", "beginsTerm", "()I"⟩, 13) := ⟨⟨by decide +kernel, by decide +kernel⟩, List.mem_of_getElem? (i := 741) (by decide +kernel), List.mem_of_getElem? (i := 954) (by decide +kernel), List.mem_of_getElem? (i := 955) (by decide +kernel)⟩
theorem lw_p54 : lw_okq (⟨"EveningClassesModel", "paidNow", "()I"⟩, 13) := ⟨⟨by decide +kernel, by decide +kernel⟩, List.mem_of_getElem? (i := 741) (by decide +kernel), List.mem_of_getElem? (i := 958) (by decide +kernel), List.mem_of_getElem? (i := 959) (by decide +kernel)⟩
theorem lw_p55 : lw_okq (⟨"EveningClassesModel", "waiting", "(I)I"⟩, 13) := ⟨⟨by decide +kernel, by decide +kernel⟩, List.mem_of_getElem? (i := 741) (by decide +kernel), List.mem_of_getElem? (i := 966) (by decide +kernel), List.mem_of_getElem? (i := 967) (by decide +kernel)⟩
theorem lw_p56 : lw_okq (⟨"EveningClassesModel", "waitsFor", "(II)Z"⟩, 13) := ⟨⟨by decide +kernel, by decide +kernel⟩, List.mem_of_getElem? (i := 741) (by decide +kernel), List.mem_of_getElem? (i := 970) (by decide +kernel), List.mem_of_getElem? (i := 971) (by decide +kernel)⟩
theorem lw_p57 : lw_okq (⟨"EveningClassesModel", "isRoom", "(I)Z"⟩, 13) := ⟨⟨by decide +kernel, by decide +kernel⟩, List.mem_of_getElem? (i := 741) (by decide +kernel), List.mem_of_getElem? (i := 994) (by decide +kernel), List.mem_of_getElem? (i := 995) (by decide +kernel)⟩
theorem lw_p58 : lw_okq (⟨"EveningClassesModel", "peopleInClasses", "()I"⟩, 13) := ⟨⟨by decide +kernel, by decide +kernel⟩, List.mem_of_getElem? (i := 741) (by decide +kernel), List.mem_of_getElem? (i := 1002) (by decide +kernel), List.mem_of_getElem? (i := 1003) (by decide +kernel)⟩
theorem lw_p59 : lw_okq (⟨"EveningClassesModel", "here", "()I"⟩, 13) := ⟨⟨by decide +kernel, by decide +kernel⟩, List.mem_of_getElem? (i := 741) (by decide +kernel), List.mem_of_getElem? (i := 1018) (by decide +kernel), List.mem_of_getElem? (i := 1019) (by decide +kernel)⟩
theorem lw_p60 : lw_okq (⟨"EveningClassesModel", "withFree", "()I"⟩, 13) := ⟨⟨by decide +kernel, by decide +kernel⟩, List.mem_of_getElem? (i := 741) (by decide +kernel), List.mem_of_getElem? (i := 1031) (by decide +kernel), List.mem_of_getElem? (i := 1032) (by decide +kernel)⟩
theorem lw_p61 : lw_okq (⟨"EveningClassesModel", "go", "()I"⟩, 13) := ⟨⟨by decide +kernel, by decide +kernel⟩, List.mem_of_getElem? (i := 741) (by decide +kernel), List.mem_of_getElem? (i := 1051) (by decide +kernel), List.mem_of_getElem? (i := 1052) (by decide +kernel)⟩
theorem lw_p62 : lw_okq (⟨"EveningClassesModel", "readOrder", "()V"⟩, 13) := ⟨⟨by decide +kernel, by decide +kernel⟩, List.mem_of_getElem? (i := 741) (by decide +kernel), List.mem_of_getElem? (i := 1055) (by decide +kernel), List.mem_of_getElem? (i := 1056) (by decide +kernel)⟩
theorem lw_p63 : lw_okq (⟨"EveningClassesModel", "isNext", "(II)Z"⟩, 13) := ⟨⟨by decide +kernel, by decide +kernel⟩, List.mem_of_getElem? (i := 741) (by decide +kernel), List.mem_of_getElem? (i := 1059) (by decide +kernel), List.mem_of_getElem? (i := 1060) (by decide +kernel)⟩
def lw_privs_4 : List (MethodName × Nat) := [(⟨"EveningClassesModel", "merges", "(II)V"⟩, 13), (⟨"EveningClassesModel", "greatest", "()I"⟩, 13), (⟨"EveningClassesModel", "roomFor", "(I)I"⟩, 13), (⟨"EveningClassesModel", "isTaken", "(II)Z"⟩, 13), (⟨"EveningClassesModel", "inState", "(I)I"⟩, 13), (⟨"EveningClassesModel", "beginsTerm", "()I"⟩, 13), (⟨"EveningClassesModel", "paidNow", "()I"⟩, 13), (⟨"EveningClassesModel", "waiting", "(I)I"⟩, 13), (⟨"EveningClassesModel", "waitsFor", "(II)Z"⟩, 13), (⟨"EveningClassesModel", "isRoom", "(I)Z"⟩, 13), (⟨"EveningClassesModel", "peopleInClasses", "()I"⟩, 13), (⟨"EveningClassesModel", "here", "()I"⟩, 13), (⟨"EveningClassesModel", "withFree", "()I"⟩, 13), (⟨"EveningClassesModel", "go", "()I"⟩, 13), (⟨"EveningClassesModel", "readOrder", "()V"⟩, 13), (⟨"EveningClassesModel", "isNext", "(II)Z"⟩, 13)]
theorem lw_r4 : ∀ q ∈ lw_privs_4, lw_okq q := List.forall_mem_cons.mpr ⟨lw_p48, List.forall_mem_cons.mpr ⟨lw_p49, List.forall_mem_cons.mpr ⟨lw_p50, List.forall_mem_cons.mpr ⟨lw_p51, List.forall_mem_cons.mpr ⟨lw_p52, List.forall_mem_cons.mpr ⟨lw_p53, List.forall_mem_cons.mpr ⟨lw_p54, List.forall_mem_cons.mpr ⟨lw_p55, List.forall_mem_cons.mpr ⟨lw_p56, List.forall_mem_cons.mpr ⟨lw_p57, List.forall_mem_cons.mpr ⟨lw_p58, List.forall_mem_cons.mpr ⟨lw_p59, List.forall_mem_cons.mpr ⟨lw_p60, List.forall_mem_cons.mpr ⟨lw_p61, List.forall_mem_cons.mpr ⟨lw_p62, List.forall_mem_cons.mpr ⟨lw_p63, fun _ h => absurd h List.not_mem_nil⟩⟩⟩⟩⟩⟩⟩⟩⟩⟩⟩⟩⟩⟩⟩⟩
theorem lw_p64 : lw_okq (⟨"EveningClassesModel", "wordOf", "(I)I"⟩, 13) := ⟨⟨by decide +kernel, by decide +kernel⟩, List.mem_of_getElem? (i := 741) (by decide +kernel), List.mem_of_getElem? (i := 1063) (by decide +kernel), List.mem_of_getElem? (i := 1064) (by decide +kernel)⟩
theorem lw_p65 : lw_okq (⟨"EveningClassesModel", "spells", "(IIIII)Z"⟩, 13) := ⟨⟨by decide +kernel, by decide +kernel⟩, List.mem_of_getElem? (i := 741) (by decide +kernel), List.mem_of_getElem? (i := 1067) (by decide +kernel), List.mem_of_getElem? (i := 1068) (by decide +kernel)⟩
theorem lw_p66 : lw_okq (⟨"EveningClassesModel", "misfits", "(I)V"⟩, 13) := ⟨⟨by decide +kernel, by decide +kernel⟩, List.mem_of_getElem? (i := 741) (by decide +kernel), List.mem_of_getElem? (i := 1071) (by decide +kernel), List.mem_of_getElem? (i := 1072) (by decide +kernel)⟩
theorem lw_p67 : lw_okq (⟨"EveningClassesModel", "readNumber", "()V"⟩, 13) := ⟨⟨by decide +kernel, by decide +kernel⟩, List.mem_of_getElem? (i := 741) (by decide +kernel), List.mem_of_getElem? (i := 1075) (by decide +kernel), List.mem_of_getElem? (i := 1076) (by decide +kernel)⟩
theorem lw_p68 : lw_okq (⟨"EveningClassesModel", "doOrder", "()I"⟩, 13) := ⟨⟨by decide +kernel, by decide +kernel⟩, List.mem_of_getElem? (i := 741) (by decide +kernel), List.mem_of_getElem? (i := 1079) (by decide +kernel), List.mem_of_getElem? (i := 1080) (by decide +kernel)⟩
def lw_privs_5 : List (MethodName × Nat) := [(⟨"EveningClassesModel", "wordOf", "(I)I"⟩, 13), (⟨"EveningClassesModel", "spells", "(IIIII)Z"⟩, 13), (⟨"EveningClassesModel", "misfits", "(I)V"⟩, 13), (⟨"EveningClassesModel", "readNumber", "()V"⟩, 13), (⟨"EveningClassesModel", "doOrder", "()I"⟩, 13)]
theorem lw_r5 : ∀ q ∈ lw_privs_5, lw_okq q := List.forall_mem_cons.mpr ⟨lw_p64, List.forall_mem_cons.mpr ⟨lw_p65, List.forall_mem_cons.mpr ⟨lw_p66, List.forall_mem_cons.mpr ⟨lw_p67, List.forall_mem_cons.mpr ⟨lw_p68, fun _ h => absurd h List.not_mem_nil⟩⟩⟩⟩⟩
def lw_privs : List (MethodName × Nat) := lw_privs_1 ++ (lw_privs_2 ++ (lw_privs_3 ++ (lw_privs_4 ++ (lw_privs_5))))
def lw_tbl : List Cond := k2_sels lw_privs ++ tables_1
theorem lw_privs_ok : ∀ q ∈ lw_privs, lw_okq q := by
  show ∀ q ∈ lw_privs_1 ++ (lw_privs_2 ++ (lw_privs_3 ++ (lw_privs_4 ++ (lw_privs_5)))), lw_okq q
  exact List.forall_mem_append.mpr ⟨lw_r1, List.forall_mem_append.mpr ⟨lw_r2, List.forall_mem_append.mpr ⟨lw_r3, List.forall_mem_append.mpr ⟨lw_r4, lw_r5⟩⟩⟩⟩
/-- the streams that the claim lets the run draw from -/
abbrev lw_cs : List Choice := [Jvm.Choice.named "NaN.bits"]
theorem lw_bits : nanBits ∈ lw_cs := by first | decide | exact List.mem_cons_self | simp [lw_cs, nanBits]
-- ===== end of PART A; then your names; then what follows =====
end
section
def RX0 : String := "EveningClasses$Course"
def TX0 : u_T := fun k => match k with
  | 0 => ("EveningClasses$Course", "number", "I", true)
  | 1 => ("EveningClasses$Course", "members", "[I", true)
  | 2 => ("EveningClasses$Course", "subject", "I", false)
  | 3 => ("EveningClasses$Course", "level", "I", false)
  | 4 => ("EveningClasses$Course", "evening", "I", false)
  | 5 => ("EveningClasses$Course", "least", "I", false)
  | 6 => ("EveningClasses$Course", "most", "I", false)
  | 7 => ("EveningClasses$Course", "fee", "I", false)
  | 8 => ("EveningClasses$Course", "state", "I", false)
  | 9 => ("EveningClasses$Course", "why", "I", false)
  | 10 => ("EveningClasses$Course", "into", "I", false)
  | 11 => ("EveningClasses$Course", "room", "I", false)
  | _ => ("EveningClasses$Course", "size", "I", false)
def tyX0 : Nat → FieldType := fun k => match k with
  | 0 => .int
  | 1 => .array .int
  | 2 => .int
  | 3 => .int
  | 4 => .int
  | 5 => .int
  | 6 => .int
  | 7 => .int
  | 8 => .int
  | 9 => .int
  | 10 => .int
  | 11 => .int
  | _ => .int
abbrev wsX00 : List Cond := u_ws RX0 TX0 13
theorem nmX0 : ∀ a, a < 13 → ∀ b, b < 13 → a ≠ b → (TX0 a).2.1 ≠ (TX0 b).2.1 := by decide +kernel
theorem tyX0_ok : ∀ k, k < 13 → parseFieldDescriptor (TX0 k).2.2.1 = some (tyX0 k) := by decide +kernel
abbrev cX0_init : ByteArray := prog_2_method_1_code
def yX0_init : MethodName := ⟨RX0, "<init>", "(I)V"⟩
abbrev cX0_copyFrom : ByteArray := prog_2_method_2_code
def yX0_copyFrom : MethodName := ⟨RX0, "copyFrom", "(LEveningClasses$Course;)V"⟩
abbrev cX0_begin : ByteArray := prog_2_method_3_code
def yX0_begin : MethodName := ⟨RX0, "begin", "(IIII)V"⟩
abbrev cX0_reopen : ByteArray := prog_2_method_4_code
def yX0_reopen : MethodName := ⟨RX0, "reopen", "()V"⟩
abbrev cX0_hasFreePlace : ByteArray := prog_2_method_5_code
def yX0_hasFreePlace : MethodName := ⟨RX0, "hasFreePlace", "()Z"⟩
abbrev cX0_isTooSmall : ByteArray := prog_2_method_6_code
def yX0_isTooSmall : MethodName := ⟨RX0, "isTooSmall", "()Z"⟩
abbrev cX0_canTake : ByteArray := prog_2_method_7_code
def yX0_canTake : MethodName := ⟨RX0, "canTake", "(LEveningClasses$Course;)Z"⟩
abbrev cX0_levelsFrom : ByteArray := prog_2_method_8_code
def yX0_levelsFrom : MethodName := ⟨RX0, "levelsFrom", "(LEveningClasses$Course;)I"⟩
abbrev cX0_memberAt : ByteArray := prog_2_method_9_code
def yX0_memberAt : MethodName := ⟨RX0, "memberAt", "(I)I"⟩
abbrev cX0_add : ByteArray := prog_2_method_10_code
def yX0_add : MethodName := ⟨RX0, "add", "(I)V"⟩
abbrev cX0_remove : ByteArray := prog_2_method_11_code
def yX0_remove : MethodName := ⟨RX0, "remove", "(I)V"⟩
def RX1 : String := "EveningClasses$History"
def TX1 : u_T := fun k => match k with
  | 0 => ("EveningClasses$History", "ring", "[LEveningClasses$Season;", true)
  | 1 => ("EveningClasses$History", "next", "I", false)
  | _ => ("EveningClasses$History", "size", "I", false)
def tyX1 : Nat → FieldType := fun k => match k with
  | 0 => .array (.object "EveningClasses$Season")
  | 1 => .int
  | _ => .int
abbrev wsX10 : List Cond := u_ws RX1 TX1 3
theorem nmX1 : ∀ a, a < 3 → ∀ b, b < 3 → a ≠ b → (TX1 a).2.1 ≠ (TX1 b).2.1 := by decide +kernel
theorem tyX1_ok : ∀ k, k < 3 → parseFieldDescriptor (TX1 k).2.2.1 = some (tyX1 k) := by decide +kernel
abbrev cX1_init : ByteArray := prog_3_method_1_code
def yX1_init : MethodName := ⟨RX1, "<init>", "()V"⟩
abbrev cX1_note : ByteArray := prog_3_method_2_code
def yX1_note : MethodName := ⟨RX1, "note", "(LEveningClasses$Season;)V"⟩
abbrev cX1_keep : ByteArray := prog_3_method_3_code
def yX1_keep : MethodName := ⟨RX1, "keep", "(I)I"⟩
abbrev cX1_restoreInto : ByteArray := prog_3_method_4_code
def yX1_restoreInto : MethodName := ⟨RX1, "restoreInto", "(LEveningClasses$Season;)I"⟩
def RX2 : String := "EveningClasses$Person"
def TX2 : u_T := fun k => match k with
  | 0 => ("EveningClasses$Person", "number", "I", true)
  | 1 => ("EveningClasses$Person", "here", "Z", false)
  | 2 => ("EveningClasses$Person", "course", "I", false)
  | 3 => ("EveningClasses$Person", "paid", "I", false)
  | 4 => ("EveningClasses$Person", "comings", "I", false)
  | 5 => ("EveningClasses$Person", "first", "I", false)
  | 6 => ("EveningClasses$Person", "second", "I", false)
  | _ => ("EveningClasses$Person", "third", "I", false)
def tyX2 : Nat → FieldType := fun k => match k with
  | 0 => .int
  | 1 => .boolean
  | 2 => .int
  | 3 => .int
  | 4 => .int
  | 5 => .int
  | 6 => .int
  | _ => .int
abbrev wsX20 : List Cond := u_ws RX2 TX2 8
theorem nmX2 : ∀ a, a < 8 → ∀ b, b < 8 → a ≠ b → (TX2 a).2.1 ≠ (TX2 b).2.1 := by decide +kernel
theorem tyX2_ok : ∀ k, k < 8 → parseFieldDescriptor (TX2 k).2.2.1 = some (tyX2 k) := by decide +kernel
abbrev cX2_init : ByteArray := prog_4_method_1_code
def yX2_init : MethodName := ⟨RX2, "<init>", "(I)V"⟩
abbrev cX2_copyFrom : ByteArray := prog_4_method_2_code
def yX2_copyFrom : MethodName := ⟨RX2, "copyFrom", "(LEveningClasses$Person;)V"⟩
abbrev cX2_forget : ByteArray := prog_4_method_3_code
def yX2_forget : MethodName := ⟨RX2, "forget", "()V"⟩
abbrev cX2_setWishes : ByteArray := prog_4_method_4_code
def yX2_setWishes : MethodName := ⟨RX2, "setWishes", "(III)V"⟩
abbrev cX2_wishAt : ByteArray := prog_4_method_5_code
def yX2_wishAt : MethodName := ⟨RX2, "wishAt", "(I)I"⟩
abbrev cX2_rankOf : ByteArray := prog_4_method_6_code
def yX2_rankOf : MethodName := ⟨RX2, "rankOf", "(I)I"⟩
abbrev cX2_rankHeld : ByteArray := prog_4_method_7_code
def yX2_rankHeld : MethodName := ⟨RX2, "rankHeld", "()I"⟩
abbrev cX2_waitsFor : ByteArray := prog_4_method_8_code
def yX2_waitsFor : MethodName := ⟨RX2, "waitsFor", "(I)Z"⟩
def RX3 : String := "EveningClasses$Season"
def TX3 : u_T := fun k => match k with
  | 0 => ("EveningClasses$Season", "courses", "[LEveningClasses$Course;", true)
  | 1 => ("EveningClasses$Season", "people", "[LEveningClasses$Person;", true)
  | 2 => ("EveningClasses$Season", "chairs", "[I", true)
  | 3 => ("EveningClasses$Season", "courseCount", "I", false)
  | 4 => ("EveningClasses$Season", "peopleCount", "I", false)
  | 5 => ("EveningClasses$Season", "roomCount", "I", false)
  | 6 => ("EveningClasses$Season", "number", "I", false)
  | 7 => ("EveningClasses$Season", "closed", "Z", false)
  | 8 => ("EveningClasses$Season", "paid", "I", false)
  | 9 => ("EveningClasses$Season", "paidBack", "I", false)
  | 10 => ("EveningClasses$Season", "paidInOldTerms", "I", false)
  | 11 => ("EveningClasses$Season", "settlings", "I", false)
  | 12 => ("EveningClasses$Season", "mergings", "I", false)
  | _ => ("EveningClasses$Season", "cancellings", "I", false)
def tyX3 : Nat → FieldType := fun k => match k with
  | 0 => .array (.object "EveningClasses$Course")
  | 1 => .array (.object "EveningClasses$Person")
  | 2 => .array .int
  | 3 => .int
  | 4 => .int
  | 5 => .int
  | 6 => .int
  | 7 => .boolean
  | 8 => .int
  | 9 => .int
  | 10 => .int
  | 11 => .int
  | 12 => .int
  | _ => .int
abbrev wsX30 : List Cond := u_ws RX3 TX3 14
theorem nmX3 : ∀ a, a < 14 → ∀ b, b < 14 → a ≠ b → (TX3 a).2.1 ≠ (TX3 b).2.1 := by decide +kernel
theorem tyX3_ok : ∀ k, k < 14 → parseFieldDescriptor (TX3 k).2.2.1 = some (tyX3 k) := by decide +kernel
abbrev cX3_init : ByteArray := prog_5_method_1_code
def yX3_init : MethodName := ⟨RX3, "<init>", "()V"⟩
abbrev cX3_copyFrom : ByteArray := prog_5_method_2_code
def yX3_copyFrom : MethodName := ⟨RX3, "copyFrom", "(LEveningClasses$Season;)V"⟩
abbrev cX3_courseAt : ByteArray := prog_5_method_3_code
def yX3_courseAt : MethodName := ⟨RX3, "courseAt", "(I)LEveningClasses$Course;"⟩
abbrev cX3_personAt : ByteArray := prog_5_method_4_code
def yX3_personAt : MethodName := ⟨RX3, "personAt", "(I)LEveningClasses$Person;"⟩
abbrev cX3_isRoom : ByteArray := prog_5_method_5_code
def yX3_isRoom : MethodName := ⟨RX3, "isRoom", "(I)Z"⟩
abbrev cX3_chairsOf : ByteArray := prog_5_method_6_code
def yX3_chairsOf : MethodName := ⟨RX3, "chairsOf", "(I)I"⟩
abbrev cX3_addCourse : ByteArray := prog_5_method_7_code
def yX3_addCourse : MethodName := ⟨RX3, "addCourse", "(IIII)I"⟩
abbrev cX3_addRoom : ByteArray := prog_5_method_8_code
def yX3_addRoom : MethodName := ⟨RX3, "addRoom", "(I)I"⟩
abbrev cX3_addPerson : ByteArray := prog_5_method_9_code
def yX3_addPerson : MethodName := ⟨RX3, "addPerson", "(III)I"⟩
abbrev cX3_changeWishes : ByteArray := prog_5_method_10_code
def yX3_changeWishes : MethodName := ⟨RX3, "changeWishes", "(IIII)I"⟩
abbrev cX3_sendAway : ByteArray := prog_5_method_11_code
def yX3_sendAway : MethodName := ⟨RX3, "sendAway", "(I)I"⟩
abbrev cX3_areWishes : ByteArray := prog_5_method_12_code
def yX3_areWishes : MethodName := ⟨RX3, "areWishes", "(III)Z"⟩
abbrev cX3_closeTerm : ByteArray := prog_5_method_13_code
def yX3_closeTerm : MethodName := ⟨RX3, "closeTerm", "()I"⟩
abbrev cX3_beginNextTerm : ByteArray := prog_5_method_14_code
def yX3_beginNextTerm : MethodName := ⟨RX3, "beginNextTerm", "()I"⟩
abbrev cX3_settle : ByteArray := prog_5_method_15_code
def yX3_settle : MethodName := ⟨RX3, "settle", "()V"⟩
abbrev cX3_betterFor : ByteArray := prog_5_method_16_code
def yX3_betterFor : MethodName := ⟨RX3, "betterFor", "(LEveningClasses$Person;)LEveningClasses$Course;"⟩
abbrev cX3_comeInto : ByteArray := prog_5_method_17_code
def yX3_comeInto : MethodName := ⟨RX3, "comeInto", "(LEveningClasses$Person;LEveningClasses$Course;)V"⟩
abbrev cX3_goOut : ByteArray := prog_5_method_18_code
def yX3_goOut : MethodName := ⟨RX3, "goOut", "(LEveningClasses$Person;)V"⟩
abbrev cX3_smallestTooSmall : ByteArray := prog_5_method_19_code
def yX3_smallestTooSmall : MethodName := ⟨RX3, "smallestTooSmall", "()LEveningClasses$Course;"⟩
abbrev cX3_mergingOf : ByteArray := prog_5_method_20_code
def yX3_mergingOf : MethodName := ⟨RX3, "mergingOf", "(LEveningClasses$Course;)LEveningClasses$Course;"⟩
abbrev cX3_isBetterMerging : ByteArray := prog_5_method_21_code
def yX3_isBetterMerging : MethodName := ⟨RX3, "isBetterMerging", "(LEveningClasses$Course;LEveningClasses$Course;LEveningClasses$Course;)Z"⟩
abbrev cX3_merge : ByteArray := prog_5_method_22_code
def yX3_merge : MethodName := ⟨RX3, "merge", "(LEveningClasses$Course;LEveningClasses$Course;)V"⟩
abbrev cX3_cancel : ByteArray := prog_5_method_23_code
def yX3_cancel : MethodName := ⟨RX3, "cancel", "(LEveningClasses$Course;I)V"⟩
abbrev cX3_findsRoom : ByteArray := prog_5_method_24_code
def yX3_findsRoom : MethodName := ⟨RX3, "findsRoom", "(LEveningClasses$Course;)Z"⟩
abbrev cX3_greatestOpen : ByteArray := prog_5_method_25_code
def yX3_greatestOpen : MethodName := ⟨RX3, "greatestOpen", "()LEveningClasses$Course;"⟩
abbrev cX3_roomFor : ByteArray := prog_5_method_26_code
def yX3_roomFor : MethodName := ⟨RX3, "roomFor", "(LEveningClasses$Course;)I"⟩
abbrev cX3_isGiven : ByteArray := prog_5_method_27_code
def yX3_isGiven : MethodName := ⟨RX3, "isGiven", "(II)Z"⟩
abbrev cX3_coursesIn : ByteArray := prog_5_method_28_code
def yX3_coursesIn : MethodName := ⟨RX3, "coursesIn", "(I)I"⟩
abbrev cX3_chairsLeft : ByteArray := prog_5_method_29_code
def yX3_chairsLeft : MethodName := ⟨RX3, "chairsLeft", "(I)I"⟩
abbrev cX3_coursesThatAre : ByteArray := prog_5_method_30_code
def yX3_coursesThatAre : MethodName := ⟨RX3, "coursesThatAre", "(I)I"⟩
abbrev cX3_coursesWithPlace : ByteArray := prog_5_method_31_code
def yX3_coursesWithPlace : MethodName := ⟨RX3, "coursesWithPlace", "()I"⟩
abbrev cX3_howManyWait : ByteArray := prog_5_method_32_code
def yX3_howManyWait : MethodName := ⟨RX3, "howManyWait", "(I)I"⟩
abbrev cX3_waiterAt : ByteArray := prog_5_method_33_code
def yX3_waiterAt : MethodName := ⟨RX3, "waiterAt", "(II)I"⟩
abbrev cX3_peopleHere : ByteArray := prog_5_method_34_code
def yX3_peopleHere : MethodName := ⟨RX3, "peopleHere", "()I"⟩
abbrev cX3_peopleInClasses : ByteArray := prog_5_method_35_code
def yX3_peopleInClasses : MethodName := ⟨RX3, "peopleInClasses", "()I"⟩
abbrev cX3_ranksTogether : ByteArray := prog_5_method_36_code
def yX3_ranksTogether : MethodName := ⟨RX3, "ranksTogether", "()I"⟩
abbrev cX3_paidForClasses : ByteArray := prog_5_method_37_code
def yX3_paidForClasses : MethodName := ⟨RX3, "paidForClasses", "()I"⟩
def RX4 : String := "EveningClasses$Text"
def TX4 : u_T := fun k => match k with
  | 0 => ("EveningClasses$Text", "characters", "[C", true)
  | 1 => ("EveningClasses$Text", "numbers", "[I", true)
  | 2 => ("EveningClasses$Text", "length", "I", false)
  | 3 => ("EveningClasses$Text", "orders", "I", false)
  | 4 => ("EveningClasses$Text", "faultPosition", "I", false)
  | 5 => ("EveningClasses$Text", "faultReason", "I", false)
  | _ => ("EveningClasses$Text", "faultCause", "I", false)
def tyX4 : Nat → FieldType := fun k => match k with
  | 0 => .array .char
  | 1 => .array .int
  | 2 => .int
  | 3 => .int
  | 4 => .int
  | 5 => .int
  | _ => .int
abbrev wsX40 : List Cond := u_ws RX4 TX4 7
theorem nmX4 : ∀ a, a < 7 → ∀ b, b < 7 → a ≠ b → (TX4 a).2.1 ≠ (TX4 b).2.1 := by decide +kernel
theorem tyX4_ok : ∀ k, k < 7 → parseFieldDescriptor (TX4 k).2.2.1 = some (tyX4 k) := by decide +kernel
abbrev cX4_init : ByteArray := prog_6_method_1_code
def yX4_init : MethodName := ⟨RX4, "<init>", "()V"⟩
abbrev cX4_append : ByteArray := prog_6_method_2_code
def yX4_append : MethodName := ⟨RX4, "append", "(C)I"⟩
abbrev cX4_playOn : ByteArray := prog_6_method_3_code
def yX4_playOn : MethodName := ⟨RX4, "playOn", "(LEveningClasses$Season;)V"⟩
abbrev cX4_answerTo : ByteArray := prog_6_method_4_code
def yX4_answerTo : MethodName := ⟨RX4, "answerTo", "(LEveningClasses$Word;LEveningClasses$Season;)I"⟩
abbrev cX4_wordAt : ByteArray := prog_6_method_5_code
def yX4_wordAt : MethodName := ⟨RX4, "wordAt", "(I)LEveningClasses$Word;"⟩
abbrev cX4_isBetween : ByteArray := prog_6_method_6_code
def yX4_isBetween : MethodName := ⟨RX4, "isBetween", "(Ljava/lang/String;II)Z"⟩
abbrev cX4_readOrder : ByteArray := prog_6_method_7_code
def yX4_readOrder : MethodName := ⟨RX4, "readOrder", "(LEveningClasses$Word;I)I"⟩
abbrev cX4_readNumbers : ByteArray := prog_6_method_8_code
def yX4_readNumbers : MethodName := ⟨RX4, "readNumbers", "(LEveningClasses$Word;II)I"⟩
abbrev cX4_notFitting : ByteArray := prog_6_method_9_code
def yX4_notFitting : MethodName := ⟨RX4, "notFitting", "(II)I"⟩
abbrev cX4_characterAt : ByteArray := prog_6_method_10_code
def yX4_characterAt : MethodName := ⟨RX4, "characterAt", "(I)C"⟩
abbrev cX4_isLetter : ByteArray := prog_6_method_11_code
def yX4_isLetter : MethodName := ⟨RX4, "isLetter", "(I)Z"⟩
abbrev cX4_isDigit : ByteArray := prog_6_method_12_code
def yX4_isDigit : MethodName := ⟨RX4, "isDigit", "(I)Z"⟩
abbrev cX4_numberAt : ByteArray := prog_6_method_13_code
def yX4_numberAt : MethodName := ⟨RX4, "numberAt", "(I)I"⟩
def RX5 : String := "EveningClasses$Word"
def TX5 : u_T := fun k => match k with
  | _ => ("", "", "", false)
def tyX5 : Nat → FieldType := fun k => match k with
  | _ => .int
abbrev wsX50 : List Cond := u_ws RX5 TX5 0
theorem nmX5 : ∀ a, a < 0 → ∀ b, b < 0 → a ≠ b → (TX5 a).2.1 ≠ (TX5 b).2.1 := by decide +kernel
theorem tyX5_ok : ∀ k, k < 0 → parseFieldDescriptor (TX5 k).2.2.1 = some (tyX5 k) := by decide +kernel
def RX6 : String := "EveningClasses"
def TX6 : u_T := fun k => match k with
  | 0 => ("EveningClasses", "now", "LEveningClasses$Season;", true)
  | 1 => ("EveningClasses", "trial", "LEveningClasses$Season;", true)
  | 2 => ("EveningClasses", "past", "LEveningClasses$History;", true)
  | _ => ("EveningClasses", "text", "LEveningClasses$Text;", true)
def tyX6 : Nat → FieldType := fun k => match k with
  | 0 => .object "EveningClasses$Season"
  | 1 => .object "EveningClasses$Season"
  | 2 => .object "EveningClasses$History"
  | _ => .object "EveningClasses$Text"
abbrev wsX60 : List Cond := u_ws RX6 TX6 4
theorem nmX6 : ∀ a, a < 4 → ∀ b, b < 4 → a ≠ b → (TX6 a).2.1 ≠ (TX6 b).2.1 := by decide +kernel
theorem tyX6_ok : ∀ k, k < 4 → parseFieldDescriptor (TX6 k).2.2.1 = some (tyX6 k) := by decide +kernel
abbrev cX6_init : ByteArray := prog_1_method_1_code
def yX6_init : MethodName := ⟨RX6, "<init>", "()V"⟩
abbrev cX6_course : ByteArray := prog_1_method_2_code
def yX6_course : MethodName := ⟨RX6, "course", "(IIII)I"⟩
abbrev cX6_room : ByteArray := prog_1_method_3_code
def yX6_room : MethodName := ⟨RX6, "room", "(I)I"⟩
abbrev cX6_join : ByteArray := prog_1_method_4_code
def yX6_join : MethodName := ⟨RX6, "join", "(III)I"⟩
abbrev cX6_wish : ByteArray := prog_1_method_5_code
def yX6_wish : MethodName := ⟨RX6, "wish", "(IIII)I"⟩
abbrev cX6_leave : ByteArray := prog_1_method_6_code
def yX6_leave : MethodName := ⟨RX6, "leave", "(I)I"⟩
abbrev cX6_close : ByteArray := prog_1_method_7_code
def yX6_close : MethodName := ⟨RX6, "close", "()I"⟩
abbrev cX6_term : ByteArray := prog_1_method_8_code
def yX6_term : MethodName := ⟨RX6, "term", "()I"⟩
abbrev cX6_courseOf : ByteArray := prog_1_method_9_code
def yX6_courseOf : MethodName := ⟨RX6, "courseOf", "(II)I"⟩
abbrev cX6_member : ByteArray := prog_1_method_10_code
def yX6_member : MethodName := ⟨RX6, "member", "(II)I"⟩
abbrev cX6_waits : ByteArray := prog_1_method_11_code
def yX6_waits : MethodName := ⟨RX6, "waits", "(II)I"⟩
abbrev cX6_personOf : ByteArray := prog_1_method_12_code
def yX6_personOf : MethodName := ⟨RX6, "personOf", "(II)I"⟩
abbrev cX6_roomOf : ByteArray := prog_1_method_13_code
def yX6_roomOf : MethodName := ⟨RX6, "roomOf", "(II)I"⟩
abbrev cX6_ifClose : ByteArray := prog_1_method_14_code
def yX6_ifClose : MethodName := ⟨RX6, "ifClose", "(I)I"⟩
abbrev cX6_beside : ByteArray := prog_1_method_15_code
def yX6_beside : MethodName := ⟨RX6, "beside", "(I)I"⟩
abbrev cX6_ifJoin : ByteArray := prog_1_method_16_code
def yX6_ifJoin : MethodName := ⟨RX6, "ifJoin", "(I)I"⟩
abbrev cX6_mean : ByteArray := prog_1_method_17_code
def yX6_mean : MethodName := ⟨RX6, "mean", "()I"⟩
abbrev cX6_count : ByteArray := prog_1_method_18_code
def yX6_count : MethodName := ⟨RX6, "count", "(I)I"⟩
abbrev cX6_undo : ByteArray := prog_1_method_19_code
def yX6_undo : MethodName := ⟨RX6, "undo", "()I"⟩
abbrev cX6_type : ByteArray := prog_1_method_20_code
def yX6_type : MethodName := ⟨RX6, "type", "(I)I"⟩
abbrev cX6_clearText : ByteArray := prog_1_method_21_code
def yX6_clearText : MethodName := ⟨RX6, "clearText", "()I"⟩
abbrev cX6_fault : ByteArray := prog_1_method_22_code
def yX6_fault : MethodName := ⟨RX6, "fault", "(I)I"⟩
abbrev cX6_play : ByteArray := prog_1_method_23_code
def yX6_play : MethodName := ⟨RX6, "play", "()I"⟩
abbrev cX6_isOutside : ByteArray := prog_1_method_24_code
def yX6_isOutside : MethodName := ⟨RX6, "isOutside", "(III)Z"⟩
abbrev cX6_foundOrNot : ByteArray := prog_1_method_25_code
def yX6_foundOrNot : MethodName := ⟨RX6, "foundOrNot", "(I)I"⟩
abbrev cX6_bitsOf : ByteArray := prog_1_method_26_code
def yX6_bitsOf : MethodName := ⟨RX6, "bitsOf", "(F)I"⟩
def RX7 : String := "EveningClassesModel"
def TX7 : u_T := fun k => match k with
  | 0 => ("EveningClassesModel", "s", "[I", true)
  | 1 => ("EveningClassesModel", "aside", "[I", true)
  | 2 => ("EveningClassesModel", "before", "[I", true)
  | 3 => ("EveningClassesModel", "known", "I", false)
  | 4 => ("EveningClassesModel", "text", "[I", true)
  | 5 => ("EveningClassesModel", "length", "I", false)
  | 6 => ("EveningClassesModel", "start", "I", false)
  | 7 => ("EveningClassesModel", "place", "I", false)
  | 8 => ("EveningClassesModel", "word", "I", false)
  | 9 => ("EveningClassesModel", "numbers", "[I", true)
  | 10 => ("EveningClassesModel", "many", "I", false)
  | 11 => ("EveningClassesModel", "reason", "I", false)
  | _ => ("EveningClassesModel", "cause", "I", false)
def tyX7 : Nat → FieldType := fun k => match k with
  | 0 => .array .int
  | 1 => .array .int
  | 2 => .array .int
  | 3 => .int
  | 4 => .array .int
  | 5 => .int
  | 6 => .int
  | 7 => .int
  | 8 => .int
  | 9 => .array .int
  | 10 => .int
  | 11 => .int
  | _ => .int
abbrev wsX70 : List Cond := u_ws RX7 TX7 13
theorem nmX7 : ∀ a, a < 13 → ∀ b, b < 13 → a ≠ b → (TX7 a).2.1 ≠ (TX7 b).2.1 := by decide +kernel
theorem tyX7_ok : ∀ k, k < 13 → parseFieldDescriptor (TX7 k).2.2.1 = some (tyX7 k) := by decide +kernel
abbrev cX7_init : ByteArray := prog_9_method_1_code
def yX7_init : MethodName := ⟨RX7, "<init>", "()V"⟩
abbrev cX7_in : ByteArray := prog_9_method_3_code
def yX7_in : MethodName := ⟨RX7, "in", "(III)Z"⟩
abbrev cX7_putAside : ByteArray := prog_9_method_4_code
def yX7_putAside : MethodName := ⟨RX7, "putAside", "()V"⟩
abbrev cX7_putBack : ByteArray := prog_9_method_5_code
def yX7_putBack : MethodName := ⟨RX7, "putBack", "()V"⟩
abbrev cX7_change : ByteArray := prog_9_method_6_code
def yX7_change : MethodName := ⟨RX7, "change", "(I)I"⟩
abbrev cX7_at : ByteArray := prog_9_method_7_code
def yX7_at : MethodName := ⟨RX7, "at", "(II)I"⟩
abbrev cX7_of : ByteArray := prog_9_method_8_code
def yX7_of : MethodName := ⟨RX7, "of", "(II)I"⟩
abbrev cX7_isCourse : ByteArray := prog_9_method_9_code
def yX7_isCourse : MethodName := ⟨RX7, "isCourse", "(I)Z"⟩
abbrev cX7_isPerson : ByteArray := prog_9_method_10_code
def yX7_isPerson : MethodName := ⟨RX7, "isPerson", "(I)Z"⟩
abbrev cX7_isRoom : ByteArray := prog_9_method_11_code
def yX7_isRoom : MethodName := ⟨RX7, "isRoom", "(I)Z"⟩
abbrev cX7_isHere : ByteArray := prog_9_method_12_code
def yX7_isHere : MethodName := ⟨RX7, "isHere", "(I)Z"⟩
abbrev cX7_isOpen : ByteArray := prog_9_method_13_code
def yX7_isOpen : MethodName := ⟨RX7, "isOpen", "(I)Z"⟩
abbrev cX7_people : ByteArray := prog_9_method_14_code
def yX7_people : MethodName := ⟨RX7, "people", "(I)I"⟩
abbrev cX7_hasFree : ByteArray := prog_9_method_15_code
def yX7_hasFree : MethodName := ⟨RX7, "hasFree", "(I)Z"⟩
abbrev cX7_rankOf : ByteArray := prog_9_method_16_code
def yX7_rankOf : MethodName := ⟨RX7, "rankOf", "(II)I"⟩
abbrev cX7_rank : ByteArray := prog_9_method_17_code
def yX7_rank : MethodName := ⟨RX7, "rank", "(I)I"⟩
abbrev cX7_goesOut : ByteArray := prog_9_method_18_code
def yX7_goesOut : MethodName := ⟨RX7, "goesOut", "(I)V"⟩
abbrev cX7_joins : ByteArray := prog_9_method_19_code
def yX7_joins : MethodName := ⟨RX7, "joins", "(II)V"⟩
abbrev cX7_better : ByteArray := prog_9_method_20_code
def yX7_better : MethodName := ⟨RX7, "better", "(I)I"⟩
abbrev cX7_settle : ByteArray := prog_9_method_21_code
def yX7_settle : MethodName := ⟨RX7, "settle", "()V"⟩
abbrev cX7_cancels : ByteArray := prog_9_method_22_code
def yX7_cancels : MethodName := ⟨RX7, "cancels", "(II)V"⟩
abbrev cX7_levelsApart : ByteArray := prog_9_method_23_code
def yX7_levelsApart : MethodName := ⟨RX7, "levelsApart", "(II)I"⟩
abbrev cX7_fitting : ByteArray := prog_9_method_24_code
def yX7_fitting : MethodName := ⟨RX7, "fitting", "(I)I"⟩
abbrev cX7_merges : ByteArray := prog_9_method_25_code
def yX7_merges : MethodName := ⟨RX7, "merges", "(II)V"⟩
abbrev cX7_smallest : ByteArray := prog_9_method_26_code
def yX7_smallest : MethodName := ⟨RX7, "smallest", "()I"⟩
abbrev cX7_greatest : ByteArray := prog_9_method_27_code
def yX7_greatest : MethodName := ⟨RX7, "greatest", "()I"⟩
abbrev cX7_isTaken : ByteArray := prog_9_method_28_code
def yX7_isTaken : MethodName := ⟨RX7, "isTaken", "(II)Z"⟩
abbrev cX7_roomFor : ByteArray := prog_9_method_29_code
def yX7_roomFor : MethodName := ⟨RX7, "roomFor", "(I)I"⟩
abbrev cX7_closes : ByteArray := prog_9_method_30_code
def yX7_closes : MethodName := ⟨RX7, "closes", "()V"⟩
abbrev cX7_inState : ByteArray := prog_9_method_31_code
def yX7_inState : MethodName := ⟨RX7, "inState", "(I)I"⟩
abbrev cX7_size : ByteArray := prog_9_method_32_code
def yX7_size : MethodName := ⟨RX7, "size", "(I)I"⟩
abbrev cX7_areWishes : ByteArray := prog_9_method_33_code
def yX7_areWishes : MethodName := ⟨RX7, "areWishes", "(III)Z"⟩
abbrev cX7_wishes : ByteArray := prog_9_method_34_code
def yX7_wishes : MethodName := ⟨RX7, "wishes", "(IIII)V"⟩
abbrev cX7_comes : ByteArray := prog_9_method_35_code
def yX7_comes : MethodName := ⟨RX7, "comes", "(III)I"⟩
abbrev cX7_changesWishes : ByteArray := prog_9_method_36_code
def yX7_changesWishes : MethodName := ⟨RX7, "changesWishes", "(IIII)I"⟩
abbrev cX7_leaves : ByteArray := prog_9_method_37_code
def yX7_leaves : MethodName := ⟨RX7, "leaves", "(I)I"⟩
abbrev cX7_closesTerm : ByteArray := prog_9_method_38_code
def yX7_closesTerm : MethodName := ⟨RX7, "closesTerm", "()I"⟩
abbrev cX7_paidNow : ByteArray := prog_9_method_39_code
def yX7_paidNow : MethodName := ⟨RX7, "paidNow", "()I"⟩
abbrev cX7_beginsTerm : ByteArray := prog_9_method_40_code
def yX7_beginsTerm : MethodName := ⟨RX7, "beginsTerm", "()I"⟩
abbrev cX7_course : ByteArray := prog_9_method_41_code
def yX7_course : MethodName := ⟨RX7, "course", "(IIII)I"⟩
abbrev cX7_room : ByteArray := prog_9_method_42_code
def yX7_room : MethodName := ⟨RX7, "room", "(I)I"⟩
abbrev cX7_join : ByteArray := prog_9_method_43_code
def yX7_join : MethodName := ⟨RX7, "join", "(III)I"⟩
abbrev cX7_wish : ByteArray := prog_9_method_44_code
def yX7_wish : MethodName := ⟨RX7, "wish", "(IIII)I"⟩
abbrev cX7_leave : ByteArray := prog_9_method_45_code
def yX7_leave : MethodName := ⟨RX7, "leave", "(I)I"⟩
abbrev cX7_close : ByteArray := prog_9_method_46_code
def yX7_close : MethodName := ⟨RX7, "close", "()I"⟩
abbrev cX7_term : ByteArray := prog_9_method_47_code
def yX7_term : MethodName := ⟨RX7, "term", "()I"⟩
abbrev cX7_waitsFor : ByteArray := prog_9_method_48_code
def yX7_waitsFor : MethodName := ⟨RX7, "waitsFor", "(II)Z"⟩
abbrev cX7_waiting : ByteArray := prog_9_method_49_code
def yX7_waiting : MethodName := ⟨RX7, "waiting", "(I)I"⟩
abbrev cX7_told : ByteArray := prog_9_method_50_code
def yX7_told : MethodName := ⟨RX7, "told", "(I)I"⟩
abbrev cX7_courseOf : ByteArray := prog_9_method_51_code
def yX7_courseOf : MethodName := ⟨RX7, "courseOf", "(II)I"⟩
abbrev cX7_member : ByteArray := prog_9_method_52_code
def yX7_member : MethodName := ⟨RX7, "member", "(II)I"⟩
abbrev cX7_waits : ByteArray := prog_9_method_53_code
def yX7_waits : MethodName := ⟨RX7, "waits", "(II)I"⟩
abbrev cX7_personOf : ByteArray := prog_9_method_54_code
def yX7_personOf : MethodName := ⟨RX7, "personOf", "(II)I"⟩
abbrev cX7_roomOf : ByteArray := prog_9_method_55_code
def yX7_roomOf : MethodName := ⟨RX7, "roomOf", "(II)I"⟩
abbrev cX7_peopleInClasses : ByteArray := prog_9_method_56_code
def yX7_peopleInClasses : MethodName := ⟨RX7, "peopleInClasses", "()I"⟩
abbrev cX7_ifClose : ByteArray := prog_9_method_57_code
def yX7_ifClose : MethodName := ⟨RX7, "ifClose", "(I)I"⟩
abbrev cX7_beside : ByteArray := prog_9_method_58_code
def yX7_beside : MethodName := ⟨RX7, "beside", "(I)I"⟩
abbrev cX7_ifJoin : ByteArray := prog_9_method_59_code
def yX7_ifJoin : MethodName := ⟨RX7, "ifJoin", "(I)I"⟩
abbrev cX7_bitsOf : ByteArray := prog_9_method_60_code
def yX7_bitsOf : MethodName := ⟨RX7, "bitsOf", "(F)I"⟩
abbrev cX7_here : ByteArray := prog_9_method_61_code
def yX7_here : MethodName := ⟨RX7, "here", "()I"⟩
abbrev cX7_mean : ByteArray := prog_9_method_62_code
def yX7_mean : MethodName := ⟨RX7, "mean", "()I"⟩
abbrev cX7_withFree : ByteArray := prog_9_method_63_code
def yX7_withFree : MethodName := ⟨RX7, "withFree", "()I"⟩
abbrev cX7_count : ByteArray := prog_9_method_64_code
def yX7_count : MethodName := ⟨RX7, "count", "(I)I"⟩
abbrev cX7_undo : ByteArray := prog_9_method_65_code
def yX7_undo : MethodName := ⟨RX7, "undo", "()I"⟩
abbrev cX7_type : ByteArray := prog_9_method_66_code
def yX7_type : MethodName := ⟨RX7, "type", "(I)I"⟩
abbrev cX7_clearText : ByteArray := prog_9_method_67_code
def yX7_clearText : MethodName := ⟨RX7, "clearText", "()I"⟩
abbrev cX7_misfits : ByteArray := prog_9_method_68_code
def yX7_misfits : MethodName := ⟨RX7, "misfits", "(I)V"⟩
abbrev cX7_isNext : ByteArray := prog_9_method_69_code
def yX7_isNext : MethodName := ⟨RX7, "isNext", "(II)Z"⟩
abbrev cX7_spells : ByteArray := prog_9_method_70_code
def yX7_spells : MethodName := ⟨RX7, "spells", "(IIIII)Z"⟩
abbrev cX7_wordOf : ByteArray := prog_9_method_71_code
def yX7_wordOf : MethodName := ⟨RX7, "wordOf", "(I)I"⟩
abbrev cX7_readNumber : ByteArray := prog_9_method_72_code
def yX7_readNumber : MethodName := ⟨RX7, "readNumber", "()V"⟩
abbrev cX7_readOrder : ByteArray := prog_9_method_73_code
def yX7_readOrder : MethodName := ⟨RX7, "readOrder", "()V"⟩
abbrev cX7_doOrder : ByteArray := prog_9_method_74_code
def yX7_doOrder : MethodName := ⟨RX7, "doOrder", "()I"⟩
abbrev cX7_go : ByteArray := prog_9_method_75_code
def yX7_go : MethodName := ⟨RX7, "go", "()I"⟩
abbrev cX7_fault : ByteArray := prog_9_method_76_code
def yX7_fault : MethodName := ⟨RX7, "fault", "(I)I"⟩
abbrev cX7_play : ByteArray := prog_9_method_77_code
def yX7_play : MethodName := ⟨RX7, "play", "()I"⟩
def RJx29ce0 : String := "java/lang/Enum"
def TJx29ce0 : u_T := fun k => match k with
  | _ => ("", "", "", false)
def tyJx29ce0 : Nat → FieldType := fun k => match k with
  | _ => .int
abbrev wsJx29ce00 : List Cond := u_ws RJx29ce0 TJx29ce0 0
theorem nmJx29ce0 : ∀ a, a < 0 → ∀ b, b < 0 → a ≠ b → (TJx29ce0 a).2.1 ≠ (TJx29ce0 b).2.1 := by decide +kernel
theorem tyJx29ce0_ok : ∀ k, k < 0 → parseFieldDescriptor (TJx29ce0 k).2.2.1 = some (tyJx29ce0 k) := by decide +kernel
def RJ6 : String := "java/lang/Integer"
def TJ6 : u_T := fun k => match k with
  | _ => ("", "", "", false)
def tyJ6 : Nat → FieldType := fun k => match k with
  | _ => .int
abbrev wsJ60 : List Cond := u_ws RJ6 TJ6 0
theorem nmJ6 : ∀ a, a < 0 → ∀ b, b < 0 → a ≠ b → (TJ6 a).2.1 ≠ (TJ6 b).2.1 := by decide +kernel
theorem tyJ6_ok : ∀ k, k < 0 → parseFieldDescriptor (TJ6 k).2.2.1 = some (tyJ6 k) := by decide +kernel
abbrev cJ6_bitCount_0f7a4 : ByteArray := prog_11_method_49_code
def yJ6_bitCount_0f7a4 : MethodName := ⟨RJ6, "bitCount", "(I)I"⟩
def RJ9 : String := "java/lang/Math"
def TJ9 : u_T := fun k => match k with
  | _ => ("", "", "", false)
def tyJ9 : Nat → FieldType := fun k => match k with
  | _ => .int
abbrev wsJ90 : List Cond := u_ws RJ9 TJ9 0
theorem nmJ9 : ∀ a, a < 0 → ∀ b, b < 0 → a ≠ b → (TJ9 a).2.1 ≠ (TJ9 b).2.1 := by decide +kernel
theorem tyJ9_ok : ∀ k, k < 0 → parseFieldDescriptor (TJ9 k).2.2.1 = some (tyJ9 k) := by decide +kernel
abbrev cJ9_max_7cf53 : ByteArray := prog_12_method_65_code
def yJ9_max_7cf53 : MethodName := ⟨RJ9, "max", "(II)I"⟩
abbrev cJ9_min_7cf53 : ByteArray := prog_12_method_69_code
def yJ9_min_7cf53 : MethodName := ⟨RJ9, "min", "(II)I"⟩
def RJ0 : String := "java/lang/String"
def TJ0 : u_T := fun k => match k with
  | _ => ("", "", "", false)
def tyJ0 : Nat → FieldType := fun k => match k with
  | _ => .int
abbrev wsJ00 : List Cond := u_ws RJ0 TJ0 0
theorem nmJ0 : ∀ a, a < 0 → ∀ b, b < 0 → a ≠ b → (TJ0 a).2.1 ≠ (TJ0 b).2.1 := by decide +kernel
theorem tyJ0_ok : ∀ k, k < 0 → parseFieldDescriptor (TJ0 k).2.2.1 = some (tyJ0 k) := by decide +kernel
abbrev cJ0_length_8abf5 : ByteArray := prog_13_method_54_code
def yJ0_length_8abf5 : MethodName := ⟨RJ0, "length", "()I"⟩
abbrev cJ0_charAt_5068e : ByteArray := prog_13_method_56_code
def yJ0_charAt_5068e : MethodName := ⟨RJ0, "charAt", "(I)C"⟩
abbrev cJ0_coder_7d493 : ByteArray := prog_13_method_152_code
def yJ0_coder_7d493 : MethodName := ⟨RJ0, "coder", "()B"⟩
abbrev cJ0_isLatin1_aae02 : ByteArray := prog_13_method_154_code
def yJ0_isLatin1_aae02 : MethodName := ⟨RJ0, "isLatin1", "()Z"⟩
abbrev cJ0_checkIndex_df160 : ByteArray := prog_13_method_155_code
def yJ0_checkIndex_df160 : MethodName := ⟨RJ0, "checkIndex", "(II)V"⟩
def RJ1 : String := "java/lang/StringLatin1"
def TJ1 : u_T := fun k => match k with
  | _ => ("", "", "", false)
def tyJ1 : Nat → FieldType := fun k => match k with
  | _ => .int
abbrev wsJ10 : List Cond := u_ws RJ1 TJ1 0
theorem nmJ1 : ∀ a, a < 0 → ∀ b, b < 0 → a ≠ b → (TJ1 a).2.1 ≠ (TJ1 b).2.1 := by decide +kernel
theorem tyJ1_ok : ∀ k, k < 0 → parseFieldDescriptor (TJ1 k).2.2.1 = some (tyJ1 k) := by decide +kernel
abbrev cJ1_charAt_3b067 : ByteArray := prog_14_method_2_code
def yJ1_charAt_3b067 : MethodName := ⟨RJ1, "charAt", "([BI)C"⟩
def RJ2 : String := "java/lang/StringUTF16"
def TJ2 : u_T := fun k => match k with
  | _ => ("", "", "", false)
def tyJ2 : Nat → FieldType := fun k => match k with
  | _ => .int
abbrev wsJ20 : List Cond := u_ws RJ2 TJ2 0
theorem nmJ2 : ∀ a, a < 0 → ∀ b, b < 0 → a ≠ b → (TJ2 a).2.1 ≠ (TJ2 b).2.1 := by decide +kernel
theorem tyJ2_ok : ∀ k, k < 0 → parseFieldDescriptor (TJ2 k).2.2.1 = some (tyJ2 k) := by decide +kernel
abbrev cJ2_getChar_3b067 : ByteArray := prog_15_method_5_code
def yJ2_getChar_3b067 : MethodName := ⟨RJ2, "getChar", "([BI)C"⟩
abbrev cJ2_length_9d52b : ByteArray := prog_15_method_6_code
def yJ2_length_9d52b : MethodName := ⟨RJ2, "length", "([B)I"⟩
abbrev cJ2_charAt_3b067 : ByteArray := prog_15_method_83_code
def yJ2_charAt_3b067 : MethodName := ⟨RJ2, "charAt", "([BI)C"⟩
abbrev cJ2_checkIndex_2214a : ByteArray := prog_15_method_91_code
def yJ2_checkIndex_2214a : MethodName := ⟨RJ2, "checkIndex", "(I[B)V"⟩
def RJ10 : String := "java/lang/System"
def TJ10 : u_T := fun k => match k with
  | _ => ("", "", "", false)
def tyJ10 : Nat → FieldType := fun k => match k with
  | _ => .int
abbrev wsJ100 : List Cond := u_ws RJ10 TJ10 0
theorem nmJ10 : ∀ a, a < 0 → ∀ b, b < 0 → a ≠ b → (TJ10 a).2.1 ≠ (TJ10 b).2.1 := by decide +kernel
theorem tyJ10_ok : ∀ k, k < 0 → parseFieldDescriptor (TJ10 k).2.2.1 = some (tyJ10 k) := by decide +kernel
def RJ3 : String := "jdk/internal/util/Preconditions"
def TJ3 : u_T := fun k => match k with
  | _ => ("", "", "", false)
def tyJ3 : Nat → FieldType := fun k => match k with
  | _ => .int
abbrev wsJ30 : List Cond := u_ws RJ3 TJ3 0
theorem nmJ3 : ∀ a, a < 0 → ∀ b, b < 0 → a ≠ b → (TJ3 a).2.1 ≠ (TJ3 b).2.1 := by decide +kernel
theorem tyJ3_ok : ∀ k, k < 0 → parseFieldDescriptor (TJ3 k).2.2.1 = some (tyJ3 k) := by decide +kernel
abbrev cJ3_checkIndex_8e157 : ByteArray := prog_17_method_11_code
def yJ3_checkIndex_8e157 : MethodName := ⟨RJ3, "checkIndex", "(IILjava/util/function/BiFunction;)I"⟩
def RL : String := "EveningClassesLaw"
abbrev cL_law : ByteArray := code
def yL_law : MethodName := ⟨RL, "law", "([I)Z"⟩
abbrev vwCl : List vw_C := [(RX0, TX0, 13), (RX1, TX1, 3), (RX2, TX2, 8), (RX3, TX3, 14), (RX4, TX4, 7), (RX6, TX6, 4), (RX7, TX7, 13)]
theorem inX0 : ∀ w ∈ wsX00, w ∈ lw_tbl := by decide +kernel
theorem inX1 : ∀ w ∈ wsX10, w ∈ lw_tbl := by decide +kernel
theorem inX2 : ∀ w ∈ wsX20, w ∈ lw_tbl := by decide +kernel
theorem inX3 : ∀ w ∈ wsX30, w ∈ lw_tbl := by decide +kernel
theorem inX4 : ∀ w ∈ wsX40, w ∈ lw_tbl := by decide +kernel
theorem inX5 : ∀ w ∈ wsX50, w ∈ lw_tbl := by decide +kernel
theorem inX6 : ∀ w ∈ wsX60, w ∈ lw_tbl := by decide +kernel
theorem inX7 : ∀ w ∈ wsX70, w ∈ lw_tbl := by decide +kernel
end
section
theorem dX0_init_0 : decode cX0_init 0 = .ok (.aload_n 0, 1) := by decide +kernel
theorem dX0_init_1 : decode cX0_init 1 = .ok (.invokespecial 3, 3) := by decide +kernel
theorem dX0_init_4 : decode cX0_init 4 = .ok (.aload_n 0, 1) := by decide +kernel
theorem dX0_init_5 : decode cX0_init 5 = .ok (.bipush 20, 2) := by decide +kernel
theorem dX0_init_7 : decode cX0_init 7 = .ok (.newarray .int, 2) := by decide +kernel
theorem dX0_init_9 : decode cX0_init 9 = .ok (.putfield 9, 3) := by decide +kernel
theorem dX0_init_12 : decode cX0_init 12 = .ok (.aload_n 0, 1) := by decide +kernel
theorem dX0_init_13 : decode cX0_init 13 = .ok (.iconst (-1), 1) := by decide +kernel
theorem dX0_init_14 : decode cX0_init 14 = .ok (.putfield 15, 3) := by decide +kernel
theorem dX0_init_17 : decode cX0_init 17 = .ok (.aload_n 0, 1) := by decide +kernel
theorem dX0_init_18 : decode cX0_init 18 = .ok (.iconst (-1), 1) := by decide +kernel
theorem dX0_init_19 : decode cX0_init 19 = .ok (.putfield 19, 3) := by decide +kernel
theorem dX0_init_22 : decode cX0_init 22 = .ok (.aload_n 0, 1) := by decide +kernel
theorem dX0_init_23 : decode cX0_init 23 = .ok (.iconst (-1), 1) := by decide +kernel
theorem dX0_init_24 : decode cX0_init 24 = .ok (.putfield 22, 3) := by decide +kernel
theorem dX0_init_27 : decode cX0_init 27 = .ok (.aload_n 0, 1) := by decide +kernel
theorem dX0_init_28 : decode cX0_init 28 = .ok (.iload_n 1, 1) := by decide +kernel
theorem dX0_init_29 : decode cX0_init 29 = .ok (.putfield 25, 3) := by decide +kernel
theorem dX0_init_32 : decode cX0_init 32 = .ok (.return_, 1) := by decide +kernel
theorem dX0_copyFrom_0 : decode cX0_copyFrom 0 = .ok (.aload_n 0, 1) := by decide +kernel
theorem dX0_copyFrom_1 : decode cX0_copyFrom 1 = .ok (.aload_n 1, 1) := by decide +kernel
theorem dX0_copyFrom_2 : decode cX0_copyFrom 2 = .ok (.getfield 28, 3) := by decide +kernel
theorem dX0_copyFrom_5 : decode cX0_copyFrom 5 = .ok (.putfield 28, 3) := by decide +kernel
theorem dX0_copyFrom_8 : decode cX0_copyFrom 8 = .ok (.aload_n 0, 1) := by decide +kernel
theorem dX0_copyFrom_9 : decode cX0_copyFrom 9 = .ok (.aload_n 1, 1) := by decide +kernel
theorem dX0_copyFrom_10 : decode cX0_copyFrom 10 = .ok (.getfield 31, 3) := by decide +kernel
theorem dX0_copyFrom_13 : decode cX0_copyFrom 13 = .ok (.putfield 31, 3) := by decide +kernel
theorem dX0_copyFrom_16 : decode cX0_copyFrom 16 = .ok (.aload_n 0, 1) := by decide +kernel
theorem dX0_copyFrom_17 : decode cX0_copyFrom 17 = .ok (.aload_n 1, 1) := by decide +kernel
theorem dX0_copyFrom_18 : decode cX0_copyFrom 18 = .ok (.getfield 34, 3) := by decide +kernel
theorem dX0_copyFrom_21 : decode cX0_copyFrom 21 = .ok (.putfield 34, 3) := by decide +kernel
theorem dX0_copyFrom_24 : decode cX0_copyFrom 24 = .ok (.aload_n 0, 1) := by decide +kernel
theorem dX0_copyFrom_25 : decode cX0_copyFrom 25 = .ok (.aload_n 1, 1) := by decide +kernel
theorem dX0_copyFrom_26 : decode cX0_copyFrom 26 = .ok (.getfield 37, 3) := by decide +kernel
theorem dX0_copyFrom_29 : decode cX0_copyFrom 29 = .ok (.putfield 37, 3) := by decide +kernel
theorem dX0_copyFrom_32 : decode cX0_copyFrom 32 = .ok (.aload_n 0, 1) := by decide +kernel
theorem dX0_copyFrom_33 : decode cX0_copyFrom 33 = .ok (.aload_n 1, 1) := by decide +kernel
theorem dX0_copyFrom_34 : decode cX0_copyFrom 34 = .ok (.getfield 40, 3) := by decide +kernel
theorem dX0_copyFrom_37 : decode cX0_copyFrom 37 = .ok (.putfield 40, 3) := by decide +kernel
theorem dX0_copyFrom_40 : decode cX0_copyFrom 40 = .ok (.aload_n 0, 1) := by decide +kernel
theorem dX0_copyFrom_41 : decode cX0_copyFrom 41 = .ok (.aload_n 1, 1) := by decide +kernel
theorem dX0_copyFrom_42 : decode cX0_copyFrom 42 = .ok (.getfield 43, 3) := by decide +kernel
theorem dX0_copyFrom_45 : decode cX0_copyFrom 45 = .ok (.putfield 43, 3) := by decide +kernel
theorem dX0_copyFrom_48 : decode cX0_copyFrom 48 = .ok (.aload_n 0, 1) := by decide +kernel
theorem dX0_copyFrom_49 : decode cX0_copyFrom 49 = .ok (.aload_n 1, 1) := by decide +kernel
theorem dX0_copyFrom_50 : decode cX0_copyFrom 50 = .ok (.getfield 15, 3) := by decide +kernel
theorem dX0_copyFrom_53 : decode cX0_copyFrom 53 = .ok (.putfield 15, 3) := by decide +kernel
theorem dX0_copyFrom_56 : decode cX0_copyFrom 56 = .ok (.aload_n 0, 1) := by decide +kernel
theorem dX0_copyFrom_57 : decode cX0_copyFrom 57 = .ok (.aload_n 1, 1) := by decide +kernel
theorem dX0_copyFrom_58 : decode cX0_copyFrom 58 = .ok (.getfield 46, 3) := by decide +kernel
theorem dX0_copyFrom_61 : decode cX0_copyFrom 61 = .ok (.putfield 46, 3) := by decide +kernel
theorem dX0_copyFrom_64 : decode cX0_copyFrom 64 = .ok (.aload_n 0, 1) := by decide +kernel
theorem dX0_copyFrom_65 : decode cX0_copyFrom 65 = .ok (.aload_n 1, 1) := by decide +kernel
theorem dX0_copyFrom_66 : decode cX0_copyFrom 66 = .ok (.getfield 19, 3) := by decide +kernel
theorem dX0_copyFrom_69 : decode cX0_copyFrom 69 = .ok (.putfield 19, 3) := by decide +kernel
theorem dX0_copyFrom_72 : decode cX0_copyFrom 72 = .ok (.aload_n 0, 1) := by decide +kernel
theorem dX0_copyFrom_73 : decode cX0_copyFrom 73 = .ok (.aload_n 1, 1) := by decide +kernel
theorem dX0_copyFrom_74 : decode cX0_copyFrom 74 = .ok (.getfield 22, 3) := by decide +kernel
theorem dX0_copyFrom_77 : decode cX0_copyFrom 77 = .ok (.putfield 22, 3) := by decide +kernel
theorem dX0_copyFrom_80 : decode cX0_copyFrom 80 = .ok (.aload_n 0, 1) := by decide +kernel
theorem dX0_copyFrom_81 : decode cX0_copyFrom 81 = .ok (.aload_n 1, 1) := by decide +kernel
theorem dX0_copyFrom_82 : decode cX0_copyFrom 82 = .ok (.getfield 49, 3) := by decide +kernel
theorem dX0_copyFrom_85 : decode cX0_copyFrom 85 = .ok (.putfield 49, 3) := by decide +kernel
theorem dX0_copyFrom_88 : decode cX0_copyFrom 88 = .ok (.aload_n 1, 1) := by decide +kernel
theorem dX0_copyFrom_89 : decode cX0_copyFrom 89 = .ok (.getfield 9, 3) := by decide +kernel
theorem dX0_copyFrom_92 : decode cX0_copyFrom 92 = .ok (.iconst 0, 1) := by decide +kernel
theorem dX0_copyFrom_93 : decode cX0_copyFrom 93 = .ok (.aload_n 0, 1) := by decide +kernel
theorem dX0_copyFrom_94 : decode cX0_copyFrom 94 = .ok (.getfield 9, 3) := by decide +kernel
theorem dX0_copyFrom_97 : decode cX0_copyFrom 97 = .ok (.iconst 0, 1) := by decide +kernel
theorem dX0_copyFrom_98 : decode cX0_copyFrom 98 = .ok (.aload_n 1, 1) := by decide +kernel
theorem dX0_copyFrom_99 : decode cX0_copyFrom 99 = .ok (.getfield 9, 3) := by decide +kernel
theorem dX0_copyFrom_102 : decode cX0_copyFrom 102 = .ok (.arraylength, 1) := by decide +kernel
theorem dX0_copyFrom_103 : decode cX0_copyFrom 103 = .ok (.aload_n 0, 1) := by decide +kernel
theorem dX0_copyFrom_104 : decode cX0_copyFrom 104 = .ok (.getfield 9, 3) := by decide +kernel
theorem dX0_copyFrom_107 : decode cX0_copyFrom 107 = .ok (.arraylength, 1) := by decide +kernel
theorem dX0_copyFrom_108 : decode cX0_copyFrom 108 = .ok (.invokestatic 52, 3) := by decide +kernel
theorem dX0_copyFrom_111 : decode cX0_copyFrom 111 = .ok (.invokestatic 58, 3) := by decide +kernel
theorem dX0_copyFrom_114 : decode cX0_copyFrom 114 = .ok (.return_, 1) := by decide +kernel
theorem dX0_begin_0 : decode cX0_begin 0 = .ok (.aload_n 0, 1) := by decide +kernel
theorem dX0_begin_1 : decode cX0_begin 1 = .ok (.iload_n 1, 1) := by decide +kernel
theorem dX0_begin_2 : decode cX0_begin 2 = .ok (.iconst 3, 1) := by decide +kernel
theorem dX0_begin_3 : decode cX0_begin 3 = .ok (.iand, 1) := by decide +kernel
theorem dX0_begin_4 : decode cX0_begin 4 = .ok (.putfield 28, 3) := by decide +kernel
theorem dX0_begin_7 : decode cX0_begin 7 = .ok (.aload_n 0, 1) := by decide +kernel
theorem dX0_begin_8 : decode cX0_begin 8 = .ok (.iload_n 1, 1) := by decide +kernel
theorem dX0_begin_9 : decode cX0_begin 9 = .ok (.iconst 2, 1) := by decide +kernel
theorem dX0_begin_10 : decode cX0_begin 10 = .ok (.ishr, 1) := by decide +kernel
theorem dX0_begin_11 : decode cX0_begin 11 = .ok (.iconst 3, 1) := by decide +kernel
theorem dX0_begin_12 : decode cX0_begin 12 = .ok (.iand, 1) := by decide +kernel
theorem dX0_begin_13 : decode cX0_begin 13 = .ok (.putfield 31, 3) := by decide +kernel
theorem dX0_begin_16 : decode cX0_begin 16 = .ok (.aload_n 0, 1) := by decide +kernel
theorem dX0_begin_17 : decode cX0_begin 17 = .ok (.iload_n 1, 1) := by decide +kernel
theorem dX0_begin_18 : decode cX0_begin 18 = .ok (.iconst 4, 1) := by decide +kernel
theorem dX0_begin_19 : decode cX0_begin 19 = .ok (.ishr, 1) := by decide +kernel
theorem dX0_begin_20 : decode cX0_begin 20 = .ok (.putfield 34, 3) := by decide +kernel
theorem dX0_begin_23 : decode cX0_begin 23 = .ok (.aload_n 0, 1) := by decide +kernel
theorem dX0_begin_24 : decode cX0_begin 24 = .ok (.iload_n 2, 1) := by decide +kernel
theorem dX0_begin_25 : decode cX0_begin 25 = .ok (.putfield 37, 3) := by decide +kernel
theorem dX0_begin_28 : decode cX0_begin 28 = .ok (.aload_n 0, 1) := by decide +kernel
theorem dX0_begin_29 : decode cX0_begin 29 = .ok (.iload_n 3, 1) := by decide +kernel
theorem dX0_begin_30 : decode cX0_begin 30 = .ok (.putfield 40, 3) := by decide +kernel
theorem dX0_begin_33 : decode cX0_begin 33 = .ok (.aload_n 0, 1) := by decide +kernel
theorem dX0_begin_34 : decode cX0_begin 34 = .ok (.iload 4, 2) := by decide +kernel
theorem dX0_begin_36 : decode cX0_begin 36 = .ok (.putfield 43, 3) := by decide +kernel
theorem dX0_begin_39 : decode cX0_begin 39 = .ok (.aload_n 0, 1) := by decide +kernel
theorem dX0_begin_40 : decode cX0_begin 40 = .ok (.invokevirtual 64, 3) := by decide +kernel
theorem dX0_begin_43 : decode cX0_begin 43 = .ok (.return_, 1) := by decide +kernel
theorem dX0_reopen_0 : decode cX0_reopen 0 = .ok (.aload_n 0, 1) := by decide +kernel
theorem dX0_reopen_1 : decode cX0_reopen 1 = .ok (.iconst 0, 1) := by decide +kernel
theorem dX0_reopen_2 : decode cX0_reopen 2 = .ok (.putfield 15, 3) := by decide +kernel
theorem dX0_reopen_5 : decode cX0_reopen 5 = .ok (.aload_n 0, 1) := by decide +kernel
theorem dX0_reopen_6 : decode cX0_reopen 6 = .ok (.iconst 0, 1) := by decide +kernel
theorem dX0_reopen_7 : decode cX0_reopen 7 = .ok (.putfield 46, 3) := by decide +kernel
theorem dX0_reopen_10 : decode cX0_reopen 10 = .ok (.aload_n 0, 1) := by decide +kernel
theorem dX0_reopen_11 : decode cX0_reopen 11 = .ok (.iconst (-1), 1) := by decide +kernel
theorem dX0_reopen_12 : decode cX0_reopen 12 = .ok (.putfield 19, 3) := by decide +kernel
theorem dX0_reopen_15 : decode cX0_reopen 15 = .ok (.aload_n 0, 1) := by decide +kernel
theorem dX0_reopen_16 : decode cX0_reopen 16 = .ok (.iconst (-1), 1) := by decide +kernel
theorem dX0_reopen_17 : decode cX0_reopen 17 = .ok (.putfield 22, 3) := by decide +kernel
theorem dX0_reopen_20 : decode cX0_reopen 20 = .ok (.aload_n 0, 1) := by decide +kernel
theorem dX0_reopen_21 : decode cX0_reopen 21 = .ok (.iconst 0, 1) := by decide +kernel
theorem dX0_reopen_22 : decode cX0_reopen 22 = .ok (.putfield 49, 3) := by decide +kernel
theorem dX0_reopen_25 : decode cX0_reopen 25 = .ok (.return_, 1) := by decide +kernel
theorem dX0_hasFreePlace_0 : decode cX0_hasFreePlace 0 = .ok (.aload_n 0, 1) := by decide +kernel
theorem dX0_hasFreePlace_1 : decode cX0_hasFreePlace 1 = .ok (.getfield 15, 3) := by decide +kernel
theorem dX0_hasFreePlace_4 : decode cX0_hasFreePlace 4 = .ok (.ifCond .ne 18, 3) := by decide +kernel
theorem dX0_hasFreePlace_7 : decode cX0_hasFreePlace 7 = .ok (.aload_n 0, 1) := by decide +kernel
theorem dX0_hasFreePlace_8 : decode cX0_hasFreePlace 8 = .ok (.getfield 49, 3) := by decide +kernel
theorem dX0_hasFreePlace_11 : decode cX0_hasFreePlace 11 = .ok (.aload_n 0, 1) := by decide +kernel
theorem dX0_hasFreePlace_12 : decode cX0_hasFreePlace 12 = .ok (.getfield 40, 3) := by decide +kernel
theorem dX0_hasFreePlace_15 : decode cX0_hasFreePlace 15 = .ok (.if_icmp .ge 7, 3) := by decide +kernel
theorem dX0_hasFreePlace_18 : decode cX0_hasFreePlace 18 = .ok (.iconst 1, 1) := by decide +kernel
theorem dX0_hasFreePlace_19 : decode cX0_hasFreePlace 19 = .ok (.goto 4, 3) := by decide +kernel
theorem dX0_hasFreePlace_22 : decode cX0_hasFreePlace 22 = .ok (.iconst 0, 1) := by decide +kernel
theorem dX0_hasFreePlace_23 : decode cX0_hasFreePlace 23 = .ok (.ireturn, 1) := by decide +kernel
theorem dX0_isTooSmall_0 : decode cX0_isTooSmall 0 = .ok (.aload_n 0, 1) := by decide +kernel
theorem dX0_isTooSmall_1 : decode cX0_isTooSmall 1 = .ok (.getfield 15, 3) := by decide +kernel
theorem dX0_isTooSmall_4 : decode cX0_isTooSmall 4 = .ok (.ifCond .ne 18, 3) := by decide +kernel
theorem dX0_isTooSmall_7 : decode cX0_isTooSmall 7 = .ok (.aload_n 0, 1) := by decide +kernel
theorem dX0_isTooSmall_8 : decode cX0_isTooSmall 8 = .ok (.getfield 49, 3) := by decide +kernel
theorem dX0_isTooSmall_11 : decode cX0_isTooSmall 11 = .ok (.aload_n 0, 1) := by decide +kernel
theorem dX0_isTooSmall_12 : decode cX0_isTooSmall 12 = .ok (.getfield 37, 3) := by decide +kernel
theorem dX0_isTooSmall_15 : decode cX0_isTooSmall 15 = .ok (.if_icmp .ge 7, 3) := by decide +kernel
theorem dX0_isTooSmall_18 : decode cX0_isTooSmall 18 = .ok (.iconst 1, 1) := by decide +kernel
theorem dX0_isTooSmall_19 : decode cX0_isTooSmall 19 = .ok (.goto 4, 3) := by decide +kernel
theorem dX0_isTooSmall_22 : decode cX0_isTooSmall 22 = .ok (.iconst 0, 1) := by decide +kernel
theorem dX0_isTooSmall_23 : decode cX0_isTooSmall 23 = .ok (.ireturn, 1) := by decide +kernel
theorem dX0_canTake_0 : decode cX0_canTake 0 = .ok (.aload_n 0, 1) := by decide +kernel
theorem dX0_canTake_1 : decode cX0_canTake 1 = .ok (.getfield 15, 3) := by decide +kernel
theorem dX0_canTake_4 : decode cX0_canTake 4 = .ok (.ifCond .ne 54, 3) := by decide +kernel
theorem dX0_canTake_7 : decode cX0_canTake 7 = .ok (.aload_n 0, 1) := by decide +kernel
theorem dX0_canTake_8 : decode cX0_canTake 8 = .ok (.getfield 25, 3) := by decide +kernel
theorem dX0_canTake_11 : decode cX0_canTake 11 = .ok (.aload_n 1, 1) := by decide +kernel
theorem dX0_canTake_12 : decode cX0_canTake 12 = .ok (.getfield 25, 3) := by decide +kernel
theorem dX0_canTake_15 : decode cX0_canTake 15 = .ok (.if_icmp .eq 43, 3) := by decide +kernel
theorem dX0_canTake_18 : decode cX0_canTake 18 = .ok (.aload_n 0, 1) := by decide +kernel
theorem dX0_canTake_19 : decode cX0_canTake 19 = .ok (.getfield 28, 3) := by decide +kernel
theorem dX0_canTake_22 : decode cX0_canTake 22 = .ok (.aload_n 1, 1) := by decide +kernel
theorem dX0_canTake_23 : decode cX0_canTake 23 = .ok (.getfield 28, 3) := by decide +kernel
theorem dX0_canTake_26 : decode cX0_canTake 26 = .ok (.if_icmp .ne 32, 3) := by decide +kernel
theorem dX0_canTake_29 : decode cX0_canTake 29 = .ok (.aload_n 0, 1) := by decide +kernel
theorem dX0_canTake_30 : decode cX0_canTake 30 = .ok (.aload_n 1, 1) := by decide +kernel
theorem dX0_canTake_31 : decode cX0_canTake 31 = .ok (.invokevirtual 67, 3) := by decide +kernel
theorem dX0_canTake_34 : decode cX0_canTake 34 = .ok (.iconst 1, 1) := by decide +kernel
theorem dX0_canTake_35 : decode cX0_canTake 35 = .ok (.if_icmp .gt 23, 3) := by decide +kernel
theorem dX0_canTake_38 : decode cX0_canTake 38 = .ok (.aload_n 0, 1) := by decide +kernel
theorem dX0_canTake_39 : decode cX0_canTake 39 = .ok (.getfield 49, 3) := by decide +kernel
theorem dX0_canTake_42 : decode cX0_canTake 42 = .ok (.aload_n 1, 1) := by decide +kernel
theorem dX0_canTake_43 : decode cX0_canTake 43 = .ok (.getfield 49, 3) := by decide +kernel
theorem dX0_canTake_46 : decode cX0_canTake 46 = .ok (.iadd, 1) := by decide +kernel
theorem dX0_canTake_47 : decode cX0_canTake 47 = .ok (.aload_n 0, 1) := by decide +kernel
theorem dX0_canTake_48 : decode cX0_canTake 48 = .ok (.getfield 40, 3) := by decide +kernel
theorem dX0_canTake_51 : decode cX0_canTake 51 = .ok (.if_icmp .gt 7, 3) := by decide +kernel
theorem dX0_canTake_54 : decode cX0_canTake 54 = .ok (.iconst 1, 1) := by decide +kernel
theorem dX0_canTake_55 : decode cX0_canTake 55 = .ok (.goto 4, 3) := by decide +kernel
theorem dX0_canTake_58 : decode cX0_canTake 58 = .ok (.iconst 0, 1) := by decide +kernel
theorem dX0_canTake_59 : decode cX0_canTake 59 = .ok (.ireturn, 1) := by decide +kernel
theorem dX0_levelsFrom_0 : decode cX0_levelsFrom 0 = .ok (.aload_n 0, 1) := by decide +kernel
theorem dX0_levelsFrom_1 : decode cX0_levelsFrom 1 = .ok (.getfield 31, 3) := by decide +kernel
theorem dX0_levelsFrom_4 : decode cX0_levelsFrom 4 = .ok (.aload_n 1, 1) := by decide +kernel
theorem dX0_levelsFrom_5 : decode cX0_levelsFrom 5 = .ok (.getfield 31, 3) := by decide +kernel
theorem dX0_levelsFrom_8 : decode cX0_levelsFrom 8 = .ok (.if_icmp .le 15, 3) := by decide +kernel
theorem dX0_levelsFrom_11 : decode cX0_levelsFrom 11 = .ok (.aload_n 0, 1) := by decide +kernel
theorem dX0_levelsFrom_12 : decode cX0_levelsFrom 12 = .ok (.getfield 31, 3) := by decide +kernel
theorem dX0_levelsFrom_15 : decode cX0_levelsFrom 15 = .ok (.aload_n 1, 1) := by decide +kernel
theorem dX0_levelsFrom_16 : decode cX0_levelsFrom 16 = .ok (.getfield 31, 3) := by decide +kernel
theorem dX0_levelsFrom_19 : decode cX0_levelsFrom 19 = .ok (.isub, 1) := by decide +kernel
theorem dX0_levelsFrom_20 : decode cX0_levelsFrom 20 = .ok (.goto 12, 3) := by decide +kernel
theorem dX0_levelsFrom_23 : decode cX0_levelsFrom 23 = .ok (.aload_n 1, 1) := by decide +kernel
theorem dX0_levelsFrom_24 : decode cX0_levelsFrom 24 = .ok (.getfield 31, 3) := by decide +kernel
theorem dX0_levelsFrom_27 : decode cX0_levelsFrom 27 = .ok (.aload_n 0, 1) := by decide +kernel
theorem dX0_levelsFrom_28 : decode cX0_levelsFrom 28 = .ok (.getfield 31, 3) := by decide +kernel
theorem dX0_levelsFrom_31 : decode cX0_levelsFrom 31 = .ok (.isub, 1) := by decide +kernel
theorem dX0_levelsFrom_32 : decode cX0_levelsFrom 32 = .ok (.ireturn, 1) := by decide +kernel
theorem dX0_memberAt_0 : decode cX0_memberAt 0 = .ok (.iload_n 1, 1) := by decide +kernel
theorem dX0_memberAt_1 : decode cX0_memberAt 1 = .ok (.ifCond .lt 29, 3) := by decide +kernel
theorem dX0_memberAt_4 : decode cX0_memberAt 4 = .ok (.iload_n 1, 1) := by decide +kernel
theorem dX0_memberAt_5 : decode cX0_memberAt 5 = .ok (.aload_n 0, 1) := by decide +kernel
theorem dX0_memberAt_6 : decode cX0_memberAt 6 = .ok (.getfield 49, 3) := by decide +kernel
theorem dX0_memberAt_9 : decode cX0_memberAt 9 = .ok (.if_icmp .ge 21, 3) := by decide +kernel
theorem dX0_memberAt_12 : decode cX0_memberAt 12 = .ok (.iload_n 1, 1) := by decide +kernel
theorem dX0_memberAt_13 : decode cX0_memberAt 13 = .ok (.aload_n 0, 1) := by decide +kernel
theorem dX0_memberAt_14 : decode cX0_memberAt 14 = .ok (.getfield 9, 3) := by decide +kernel
theorem dX0_memberAt_17 : decode cX0_memberAt 17 = .ok (.arraylength, 1) := by decide +kernel
theorem dX0_memberAt_18 : decode cX0_memberAt 18 = .ok (.if_icmp .ge 12, 3) := by decide +kernel
theorem dX0_memberAt_21 : decode cX0_memberAt 21 = .ok (.aload_n 0, 1) := by decide +kernel
theorem dX0_memberAt_22 : decode cX0_memberAt 22 = .ok (.getfield 9, 3) := by decide +kernel
theorem dX0_memberAt_25 : decode cX0_memberAt 25 = .ok (.iload_n 1, 1) := by decide +kernel
theorem dX0_memberAt_26 : decode cX0_memberAt 26 = .ok (.iaload, 1) := by decide +kernel
theorem dX0_memberAt_27 : decode cX0_memberAt 27 = .ok (.goto 4, 3) := by decide +kernel
theorem dX0_memberAt_30 : decode cX0_memberAt 30 = .ok (.iconst (-1), 1) := by decide +kernel
theorem dX0_memberAt_31 : decode cX0_memberAt 31 = .ok (.ireturn, 1) := by decide +kernel
theorem dX0_add_0 : decode cX0_add 0 = .ok (.aload_n 0, 1) := by decide +kernel
theorem dX0_add_1 : decode cX0_add 1 = .ok (.getfield 49, 3) := by decide +kernel
theorem dX0_add_4 : decode cX0_add 4 = .ok (.ifCond .lt 35, 3) := by decide +kernel
theorem dX0_add_7 : decode cX0_add 7 = .ok (.aload_n 0, 1) := by decide +kernel
theorem dX0_add_8 : decode cX0_add 8 = .ok (.getfield 49, 3) := by decide +kernel
theorem dX0_add_11 : decode cX0_add 11 = .ok (.aload_n 0, 1) := by decide +kernel
theorem dX0_add_12 : decode cX0_add 12 = .ok (.getfield 9, 3) := by decide +kernel
theorem dX0_add_15 : decode cX0_add 15 = .ok (.arraylength, 1) := by decide +kernel
theorem dX0_add_16 : decode cX0_add 16 = .ok (.if_icmp .ge 23, 3) := by decide +kernel
theorem dX0_add_19 : decode cX0_add 19 = .ok (.aload_n 0, 1) := by decide +kernel
theorem dX0_add_20 : decode cX0_add 20 = .ok (.getfield 9, 3) := by decide +kernel
theorem dX0_add_23 : decode cX0_add 23 = .ok (.aload_n 0, 1) := by decide +kernel
theorem dX0_add_24 : decode cX0_add 24 = .ok (.getfield 49, 3) := by decide +kernel
theorem dX0_add_27 : decode cX0_add 27 = .ok (.iload_n 1, 1) := by decide +kernel
theorem dX0_add_28 : decode cX0_add 28 = .ok (.iastore, 1) := by decide +kernel
theorem dX0_add_29 : decode cX0_add 29 = .ok (.aload_n 0, 1) := by decide +kernel
theorem dX0_add_30 : decode cX0_add 30 = .ok (.dup, 1) := by decide +kernel
theorem dX0_add_31 : decode cX0_add 31 = .ok (.getfield 49, 3) := by decide +kernel
theorem dX0_add_34 : decode cX0_add 34 = .ok (.iconst 1, 1) := by decide +kernel
theorem dX0_add_35 : decode cX0_add 35 = .ok (.iadd, 1) := by decide +kernel
theorem dX0_add_36 : decode cX0_add 36 = .ok (.putfield 49, 3) := by decide +kernel
theorem dX0_add_39 : decode cX0_add 39 = .ok (.return_, 1) := by decide +kernel
theorem dX0_remove_0 : decode cX0_remove 0 = .ok (.iconst 0, 1) := by decide +kernel
theorem dX0_remove_1 : decode cX0_remove 1 = .ok (.istore_n 2, 1) := by decide +kernel
theorem dX0_remove_2 : decode cX0_remove 2 = .ok (.iconst 0, 1) := by decide +kernel
theorem dX0_remove_3 : decode cX0_remove 3 = .ok (.istore_n 3, 1) := by decide +kernel
theorem dX0_remove_4 : decode cX0_remove 4 = .ok (.iload_n 3, 1) := by decide +kernel
theorem dX0_remove_5 : decode cX0_remove 5 = .ok (.aload_n 0, 1) := by decide +kernel
theorem dX0_remove_6 : decode cX0_remove 6 = .ok (.getfield 49, 3) := by decide +kernel
theorem dX0_remove_9 : decode cX0_remove 9 = .ok (.if_icmp .ge 52, 3) := by decide +kernel
theorem dX0_remove_12 : decode cX0_remove 12 = .ok (.iload_n 3, 1) := by decide +kernel
theorem dX0_remove_13 : decode cX0_remove 13 = .ok (.aload_n 0, 1) := by decide +kernel
theorem dX0_remove_14 : decode cX0_remove 14 = .ok (.getfield 9, 3) := by decide +kernel
theorem dX0_remove_17 : decode cX0_remove 17 = .ok (.arraylength, 1) := by decide +kernel
theorem dX0_remove_18 : decode cX0_remove 18 = .ok (.if_icmp .ge 43, 3) := by decide +kernel
theorem dX0_remove_21 : decode cX0_remove 21 = .ok (.aload_n 0, 1) := by decide +kernel
theorem dX0_remove_22 : decode cX0_remove 22 = .ok (.getfield 9, 3) := by decide +kernel
theorem dX0_remove_25 : decode cX0_remove 25 = .ok (.iload_n 3, 1) := by decide +kernel
theorem dX0_remove_26 : decode cX0_remove 26 = .ok (.iaload, 1) := by decide +kernel
theorem dX0_remove_27 : decode cX0_remove 27 = .ok (.iload_n 1, 1) := by decide +kernel
theorem dX0_remove_28 : decode cX0_remove 28 = .ok (.if_icmp .eq 27, 3) := by decide +kernel
theorem dX0_remove_31 : decode cX0_remove 31 = .ok (.iload_n 2, 1) := by decide +kernel
theorem dX0_remove_32 : decode cX0_remove 32 = .ok (.aload_n 0, 1) := by decide +kernel
theorem dX0_remove_33 : decode cX0_remove 33 = .ok (.getfield 9, 3) := by decide +kernel
theorem dX0_remove_36 : decode cX0_remove 36 = .ok (.arraylength, 1) := by decide +kernel
theorem dX0_remove_37 : decode cX0_remove 37 = .ok (.if_icmp .ge 18, 3) := by decide +kernel
theorem dX0_remove_40 : decode cX0_remove 40 = .ok (.aload_n 0, 1) := by decide +kernel
theorem dX0_remove_41 : decode cX0_remove 41 = .ok (.getfield 9, 3) := by decide +kernel
theorem dX0_remove_44 : decode cX0_remove 44 = .ok (.iload_n 2, 1) := by decide +kernel
theorem dX0_remove_45 : decode cX0_remove 45 = .ok (.aload_n 0, 1) := by decide +kernel
theorem dX0_remove_46 : decode cX0_remove 46 = .ok (.getfield 9, 3) := by decide +kernel
theorem dX0_remove_49 : decode cX0_remove 49 = .ok (.iload_n 3, 1) := by decide +kernel
theorem dX0_remove_50 : decode cX0_remove 50 = .ok (.iaload, 1) := by decide +kernel
theorem dX0_remove_51 : decode cX0_remove 51 = .ok (.iastore, 1) := by decide +kernel
theorem dX0_remove_52 : decode cX0_remove 52 = .ok (.iinc 2 1, 3) := by decide +kernel
theorem dX0_remove_55 : decode cX0_remove 55 = .ok (.iinc 3 1, 3) := by decide +kernel
theorem dX0_remove_58 : decode cX0_remove 58 = .ok (.goto (-54), 3) := by decide +kernel
theorem dX0_remove_61 : decode cX0_remove 61 = .ok (.aload_n 0, 1) := by decide +kernel
theorem dX0_remove_62 : decode cX0_remove 62 = .ok (.iload_n 2, 1) := by decide +kernel
theorem dX0_remove_63 : decode cX0_remove 63 = .ok (.putfield 49, 3) := by decide +kernel
theorem dX0_remove_66 : decode cX0_remove 66 = .ok (.return_, 1) := by decide +kernel
theorem dX1_init_0 : decode cX1_init 0 = .ok (.aload_n 0, 1) := by decide +kernel
theorem dX1_init_1 : decode cX1_init 1 = .ok (.invokespecial 3, 3) := by decide +kernel
theorem dX1_init_4 : decode cX1_init 4 = .ok (.aload_n 0, 1) := by decide +kernel
theorem dX1_init_5 : decode cX1_init 5 = .ok (.iconst 5, 1) := by decide +kernel
theorem dX1_init_6 : decode cX1_init 6 = .ok (.anewarray 9, 3) := by decide +kernel
theorem dX1_init_9 : decode cX1_init 9 = .ok (.putfield 11, 3) := by decide +kernel
theorem dX1_init_12 : decode cX1_init 12 = .ok (.iconst 0, 1) := by decide +kernel
theorem dX1_init_13 : decode cX1_init 13 = .ok (.istore_n 1, 1) := by decide +kernel
theorem dX1_init_14 : decode cX1_init 14 = .ok (.iload_n 1, 1) := by decide +kernel
theorem dX1_init_15 : decode cX1_init 15 = .ok (.aload_n 0, 1) := by decide +kernel
theorem dX1_init_16 : decode cX1_init 16 = .ok (.getfield 11, 3) := by decide +kernel
theorem dX1_init_19 : decode cX1_init 19 = .ok (.arraylength, 1) := by decide +kernel
theorem dX1_init_20 : decode cX1_init 20 = .ok (.if_icmp .ge 22, 3) := by decide +kernel
theorem dX1_init_23 : decode cX1_init 23 = .ok (.aload_n 0, 1) := by decide +kernel
theorem dX1_init_24 : decode cX1_init 24 = .ok (.getfield 11, 3) := by decide +kernel
theorem dX1_init_27 : decode cX1_init 27 = .ok (.iload_n 1, 1) := by decide +kernel
theorem dX1_init_28 : decode cX1_init 28 = .ok (.new 9, 3) := by decide +kernel
theorem dX1_init_31 : decode cX1_init 31 = .ok (.dup, 1) := by decide +kernel
theorem dX1_init_32 : decode cX1_init 32 = .ok (.invokespecial 17, 3) := by decide +kernel
theorem dX1_init_35 : decode cX1_init 35 = .ok (.aastore, 1) := by decide +kernel
theorem dX1_init_36 : decode cX1_init 36 = .ok (.iinc 1 1, 3) := by decide +kernel
theorem dX1_init_39 : decode cX1_init 39 = .ok (.goto (-25), 3) := by decide +kernel
theorem dX1_init_42 : decode cX1_init 42 = .ok (.return_, 1) := by decide +kernel
theorem dX1_note_0 : decode cX1_note 0 = .ok (.aload_n 0, 1) := by decide +kernel
theorem dX1_note_1 : decode cX1_note 1 = .ok (.getfield 18, 3) := by decide +kernel
theorem dX1_note_4 : decode cX1_note 4 = .ok (.ifCond .lt 40, 3) := by decide +kernel
theorem dX1_note_7 : decode cX1_note 7 = .ok (.aload_n 0, 1) := by decide +kernel
theorem dX1_note_8 : decode cX1_note 8 = .ok (.getfield 18, 3) := by decide +kernel
theorem dX1_note_11 : decode cX1_note 11 = .ok (.aload_n 0, 1) := by decide +kernel
theorem dX1_note_12 : decode cX1_note 12 = .ok (.getfield 11, 3) := by decide +kernel
theorem dX1_note_15 : decode cX1_note 15 = .ok (.arraylength, 1) := by decide +kernel
theorem dX1_note_16 : decode cX1_note 16 = .ok (.if_icmp .ge 28, 3) := by decide +kernel
theorem dX1_note_19 : decode cX1_note 19 = .ok (.aload_n 0, 1) := by decide +kernel
theorem dX1_note_20 : decode cX1_note 20 = .ok (.getfield 11, 3) := by decide +kernel
theorem dX1_note_23 : decode cX1_note 23 = .ok (.aload_n 0, 1) := by decide +kernel
theorem dX1_note_24 : decode cX1_note 24 = .ok (.getfield 18, 3) := by decide +kernel
theorem dX1_note_27 : decode cX1_note 27 = .ok (.aaload, 1) := by decide +kernel
theorem dX1_note_28 : decode cX1_note 28 = .ok (.ifnull 16, 3) := by decide +kernel
theorem dX1_note_31 : decode cX1_note 31 = .ok (.aload_n 0, 1) := by decide +kernel
theorem dX1_note_32 : decode cX1_note 32 = .ok (.getfield 11, 3) := by decide +kernel
theorem dX1_note_35 : decode cX1_note 35 = .ok (.aload_n 0, 1) := by decide +kernel
theorem dX1_note_36 : decode cX1_note 36 = .ok (.getfield 18, 3) := by decide +kernel
theorem dX1_note_39 : decode cX1_note 39 = .ok (.aaload, 1) := by decide +kernel
theorem dX1_note_40 : decode cX1_note 40 = .ok (.aload_n 1, 1) := by decide +kernel
theorem dX1_note_41 : decode cX1_note 41 = .ok (.invokevirtual 22, 3) := by decide +kernel
theorem dX1_note_44 : decode cX1_note 44 = .ok (.return_, 1) := by decide +kernel
theorem dX1_keep_0 : decode cX1_keep 0 = .ok (.iload_n 1, 1) := by decide +kernel
theorem dX1_keep_1 : decode cX1_keep 1 = .ok (.ifCond .lt 45, 3) := by decide +kernel
theorem dX1_keep_4 : decode cX1_keep 4 = .ok (.aload_n 0, 1) := by decide +kernel
theorem dX1_keep_5 : decode cX1_keep 5 = .ok (.aload_n 0, 1) := by decide +kernel
theorem dX1_keep_6 : decode cX1_keep 6 = .ok (.getfield 18, 3) := by decide +kernel
theorem dX1_keep_9 : decode cX1_keep 9 = .ok (.iconst 1, 1) := by decide +kernel
theorem dX1_keep_10 : decode cX1_keep 10 = .ok (.iadd, 1) := by decide +kernel
theorem dX1_keep_11 : decode cX1_keep 11 = .ok (.aload_n 0, 1) := by decide +kernel
theorem dX1_keep_12 : decode cX1_keep 12 = .ok (.getfield 11, 3) := by decide +kernel
theorem dX1_keep_15 : decode cX1_keep 15 = .ok (.arraylength, 1) := by decide +kernel
theorem dX1_keep_16 : decode cX1_keep 16 = .ok (.if_icmp .ge 12, 3) := by decide +kernel
theorem dX1_keep_19 : decode cX1_keep 19 = .ok (.aload_n 0, 1) := by decide +kernel
theorem dX1_keep_20 : decode cX1_keep 20 = .ok (.getfield 18, 3) := by decide +kernel
theorem dX1_keep_23 : decode cX1_keep 23 = .ok (.iconst 1, 1) := by decide +kernel
theorem dX1_keep_24 : decode cX1_keep 24 = .ok (.iadd, 1) := by decide +kernel
theorem dX1_keep_25 : decode cX1_keep 25 = .ok (.goto 4, 3) := by decide +kernel
theorem dX1_keep_28 : decode cX1_keep 28 = .ok (.iconst 0, 1) := by decide +kernel
theorem dX1_keep_29 : decode cX1_keep 29 = .ok (.putfield 18, 3) := by decide +kernel
theorem dX1_keep_32 : decode cX1_keep 32 = .ok (.aload_n 0, 1) := by decide +kernel
theorem dX1_keep_33 : decode cX1_keep 33 = .ok (.aload_n 0, 1) := by decide +kernel
theorem dX1_keep_34 : decode cX1_keep 34 = .ok (.getfield 26, 3) := by decide +kernel
theorem dX1_keep_37 : decode cX1_keep 37 = .ok (.iconst 1, 1) := by decide +kernel
theorem dX1_keep_38 : decode cX1_keep 38 = .ok (.iadd, 1) := by decide +kernel
theorem dX1_keep_39 : decode cX1_keep 39 = .ok (.iconst 4, 1) := by decide +kernel
theorem dX1_keep_40 : decode cX1_keep 40 = .ok (.invokestatic 29, 3) := by decide +kernel
theorem dX1_keep_43 : decode cX1_keep 43 = .ok (.putfield 26, 3) := by decide +kernel
theorem dX1_keep_46 : decode cX1_keep 46 = .ok (.iload_n 1, 1) := by decide +kernel
theorem dX1_keep_47 : decode cX1_keep 47 = .ok (.ireturn, 1) := by decide +kernel
theorem dX1_restoreInto_0 : decode cX1_restoreInto 0 = .ok (.aload_n 0, 1) := by decide +kernel
theorem dX1_restoreInto_1 : decode cX1_restoreInto 1 = .ok (.getfield 26, 3) := by decide +kernel
theorem dX1_restoreInto_4 : decode cX1_restoreInto 4 = .ok (.ifCond .gt 6, 3) := by decide +kernel
theorem dX1_restoreInto_7 : decode cX1_restoreInto 7 = .ok (.ldc 35, 2) := by decide +kernel
theorem dX1_restoreInto_9 : decode cX1_restoreInto 9 = .ok (.ireturn, 1) := by decide +kernel
theorem dX1_restoreInto_10 : decode cX1_restoreInto 10 = .ok (.aload_n 0, 1) := by decide +kernel
theorem dX1_restoreInto_11 : decode cX1_restoreInto 11 = .ok (.aload_n 0, 1) := by decide +kernel
theorem dX1_restoreInto_12 : decode cX1_restoreInto 12 = .ok (.getfield 18, 3) := by decide +kernel
theorem dX1_restoreInto_15 : decode cX1_restoreInto 15 = .ok (.ifCond .le 12, 3) := by decide +kernel
theorem dX1_restoreInto_18 : decode cX1_restoreInto 18 = .ok (.aload_n 0, 1) := by decide +kernel
theorem dX1_restoreInto_19 : decode cX1_restoreInto 19 = .ok (.getfield 18, 3) := by decide +kernel
theorem dX1_restoreInto_22 : decode cX1_restoreInto 22 = .ok (.iconst 1, 1) := by decide +kernel
theorem dX1_restoreInto_23 : decode cX1_restoreInto 23 = .ok (.isub, 1) := by decide +kernel
theorem dX1_restoreInto_24 : decode cX1_restoreInto 24 = .ok (.goto 10, 3) := by decide +kernel
theorem dX1_restoreInto_27 : decode cX1_restoreInto 27 = .ok (.aload_n 0, 1) := by decide +kernel
theorem dX1_restoreInto_28 : decode cX1_restoreInto 28 = .ok (.getfield 11, 3) := by decide +kernel
theorem dX1_restoreInto_31 : decode cX1_restoreInto 31 = .ok (.arraylength, 1) := by decide +kernel
theorem dX1_restoreInto_32 : decode cX1_restoreInto 32 = .ok (.iconst 1, 1) := by decide +kernel
theorem dX1_restoreInto_33 : decode cX1_restoreInto 33 = .ok (.isub, 1) := by decide +kernel
theorem dX1_restoreInto_34 : decode cX1_restoreInto 34 = .ok (.putfield 18, 3) := by decide +kernel
theorem dX1_restoreInto_37 : decode cX1_restoreInto 37 = .ok (.aload_n 0, 1) := by decide +kernel
theorem dX1_restoreInto_38 : decode cX1_restoreInto 38 = .ok (.dup, 1) := by decide +kernel
theorem dX1_restoreInto_39 : decode cX1_restoreInto 39 = .ok (.getfield 26, 3) := by decide +kernel
theorem dX1_restoreInto_42 : decode cX1_restoreInto 42 = .ok (.iconst 1, 1) := by decide +kernel
theorem dX1_restoreInto_43 : decode cX1_restoreInto 43 = .ok (.isub, 1) := by decide +kernel
theorem dX1_restoreInto_44 : decode cX1_restoreInto 44 = .ok (.putfield 26, 3) := by decide +kernel
theorem dX1_restoreInto_47 : decode cX1_restoreInto 47 = .ok (.aload_n 0, 1) := by decide +kernel
theorem dX1_restoreInto_48 : decode cX1_restoreInto 48 = .ok (.getfield 18, 3) := by decide +kernel
theorem dX1_restoreInto_51 : decode cX1_restoreInto 51 = .ok (.ifCond .lt 40, 3) := by decide +kernel
theorem dX1_restoreInto_54 : decode cX1_restoreInto 54 = .ok (.aload_n 0, 1) := by decide +kernel
theorem dX1_restoreInto_55 : decode cX1_restoreInto 55 = .ok (.getfield 18, 3) := by decide +kernel
theorem dX1_restoreInto_58 : decode cX1_restoreInto 58 = .ok (.aload_n 0, 1) := by decide +kernel
theorem dX1_restoreInto_59 : decode cX1_restoreInto 59 = .ok (.getfield 11, 3) := by decide +kernel
theorem dX1_restoreInto_62 : decode cX1_restoreInto 62 = .ok (.arraylength, 1) := by decide +kernel
theorem dX1_restoreInto_63 : decode cX1_restoreInto 63 = .ok (.if_icmp .ge 28, 3) := by decide +kernel
theorem dX1_restoreInto_66 : decode cX1_restoreInto 66 = .ok (.aload_n 0, 1) := by decide +kernel
theorem dX1_restoreInto_67 : decode cX1_restoreInto 67 = .ok (.getfield 11, 3) := by decide +kernel
theorem dX1_restoreInto_70 : decode cX1_restoreInto 70 = .ok (.aload_n 0, 1) := by decide +kernel
theorem dX1_restoreInto_71 : decode cX1_restoreInto 71 = .ok (.getfield 18, 3) := by decide +kernel
theorem dX1_restoreInto_74 : decode cX1_restoreInto 74 = .ok (.aaload, 1) := by decide +kernel
theorem dX1_restoreInto_75 : decode cX1_restoreInto 75 = .ok (.ifnull 16, 3) := by decide +kernel
theorem dX1_restoreInto_78 : decode cX1_restoreInto 78 = .ok (.aload_n 1, 1) := by decide +kernel
theorem dX1_restoreInto_79 : decode cX1_restoreInto 79 = .ok (.aload_n 0, 1) := by decide +kernel
theorem dX1_restoreInto_80 : decode cX1_restoreInto 80 = .ok (.getfield 11, 3) := by decide +kernel
theorem dX1_restoreInto_83 : decode cX1_restoreInto 83 = .ok (.aload_n 0, 1) := by decide +kernel
theorem dX1_restoreInto_84 : decode cX1_restoreInto 84 = .ok (.getfield 18, 3) := by decide +kernel
theorem dX1_restoreInto_87 : decode cX1_restoreInto 87 = .ok (.aaload, 1) := by decide +kernel
theorem dX1_restoreInto_88 : decode cX1_restoreInto 88 = .ok (.invokevirtual 22, 3) := by decide +kernel
theorem dX1_restoreInto_91 : decode cX1_restoreInto 91 = .ok (.aload_n 0, 1) := by decide +kernel
theorem dX1_restoreInto_92 : decode cX1_restoreInto 92 = .ok (.getfield 26, 3) := by decide +kernel
theorem dX1_restoreInto_95 : decode cX1_restoreInto 95 = .ok (.ireturn, 1) := by decide +kernel
theorem dX2_init_0 : decode cX2_init 0 = .ok (.aload_n 0, 1) := by decide +kernel
theorem dX2_init_1 : decode cX2_init 1 = .ok (.invokespecial 3, 3) := by decide +kernel
theorem dX2_init_4 : decode cX2_init 4 = .ok (.aload_n 0, 1) := by decide +kernel
theorem dX2_init_5 : decode cX2_init 5 = .ok (.iconst (-1), 1) := by decide +kernel
theorem dX2_init_6 : decode cX2_init 6 = .ok (.putfield 9, 3) := by decide +kernel
theorem dX2_init_9 : decode cX2_init 9 = .ok (.aload_n 0, 1) := by decide +kernel
theorem dX2_init_10 : decode cX2_init 10 = .ok (.iconst (-1), 1) := by decide +kernel
theorem dX2_init_11 : decode cX2_init 11 = .ok (.putfield 15, 3) := by decide +kernel
theorem dX2_init_14 : decode cX2_init 14 = .ok (.aload_n 0, 1) := by decide +kernel
theorem dX2_init_15 : decode cX2_init 15 = .ok (.iconst (-1), 1) := by decide +kernel
theorem dX2_init_16 : decode cX2_init 16 = .ok (.putfield 18, 3) := by decide +kernel
theorem dX2_init_19 : decode cX2_init 19 = .ok (.aload_n 0, 1) := by decide +kernel
theorem dX2_init_20 : decode cX2_init 20 = .ok (.iconst (-1), 1) := by decide +kernel
theorem dX2_init_21 : decode cX2_init 21 = .ok (.putfield 21, 3) := by decide +kernel
theorem dX2_init_24 : decode cX2_init 24 = .ok (.aload_n 0, 1) := by decide +kernel
theorem dX2_init_25 : decode cX2_init 25 = .ok (.iload_n 1, 1) := by decide +kernel
theorem dX2_init_26 : decode cX2_init 26 = .ok (.putfield 24, 3) := by decide +kernel
theorem dX2_init_29 : decode cX2_init 29 = .ok (.return_, 1) := by decide +kernel
theorem dX2_copyFrom_0 : decode cX2_copyFrom 0 = .ok (.aload_n 0, 1) := by decide +kernel
theorem dX2_copyFrom_1 : decode cX2_copyFrom 1 = .ok (.aload_n 1, 1) := by decide +kernel
theorem dX2_copyFrom_2 : decode cX2_copyFrom 2 = .ok (.getfield 27, 3) := by decide +kernel
theorem dX2_copyFrom_5 : decode cX2_copyFrom 5 = .ok (.putfield 27, 3) := by decide +kernel
theorem dX2_copyFrom_8 : decode cX2_copyFrom 8 = .ok (.aload_n 0, 1) := by decide +kernel
theorem dX2_copyFrom_9 : decode cX2_copyFrom 9 = .ok (.aload_n 1, 1) := by decide +kernel
theorem dX2_copyFrom_10 : decode cX2_copyFrom 10 = .ok (.getfield 9, 3) := by decide +kernel
theorem dX2_copyFrom_13 : decode cX2_copyFrom 13 = .ok (.putfield 9, 3) := by decide +kernel
theorem dX2_copyFrom_16 : decode cX2_copyFrom 16 = .ok (.aload_n 0, 1) := by decide +kernel
theorem dX2_copyFrom_17 : decode cX2_copyFrom 17 = .ok (.aload_n 1, 1) := by decide +kernel
theorem dX2_copyFrom_18 : decode cX2_copyFrom 18 = .ok (.getfield 31, 3) := by decide +kernel
theorem dX2_copyFrom_21 : decode cX2_copyFrom 21 = .ok (.putfield 31, 3) := by decide +kernel
theorem dX2_copyFrom_24 : decode cX2_copyFrom 24 = .ok (.aload_n 0, 1) := by decide +kernel
theorem dX2_copyFrom_25 : decode cX2_copyFrom 25 = .ok (.aload_n 1, 1) := by decide +kernel
theorem dX2_copyFrom_26 : decode cX2_copyFrom 26 = .ok (.getfield 34, 3) := by decide +kernel
theorem dX2_copyFrom_29 : decode cX2_copyFrom 29 = .ok (.putfield 34, 3) := by decide +kernel
theorem dX2_copyFrom_32 : decode cX2_copyFrom 32 = .ok (.aload_n 0, 1) := by decide +kernel
theorem dX2_copyFrom_33 : decode cX2_copyFrom 33 = .ok (.aload_n 1, 1) := by decide +kernel
theorem dX2_copyFrom_34 : decode cX2_copyFrom 34 = .ok (.getfield 15, 3) := by decide +kernel
theorem dX2_copyFrom_37 : decode cX2_copyFrom 37 = .ok (.putfield 15, 3) := by decide +kernel
theorem dX2_copyFrom_40 : decode cX2_copyFrom 40 = .ok (.aload_n 0, 1) := by decide +kernel
theorem dX2_copyFrom_41 : decode cX2_copyFrom 41 = .ok (.aload_n 1, 1) := by decide +kernel
theorem dX2_copyFrom_42 : decode cX2_copyFrom 42 = .ok (.getfield 18, 3) := by decide +kernel
theorem dX2_copyFrom_45 : decode cX2_copyFrom 45 = .ok (.putfield 18, 3) := by decide +kernel
theorem dX2_copyFrom_48 : decode cX2_copyFrom 48 = .ok (.aload_n 0, 1) := by decide +kernel
theorem dX2_copyFrom_49 : decode cX2_copyFrom 49 = .ok (.aload_n 1, 1) := by decide +kernel
theorem dX2_copyFrom_50 : decode cX2_copyFrom 50 = .ok (.getfield 21, 3) := by decide +kernel
theorem dX2_copyFrom_53 : decode cX2_copyFrom 53 = .ok (.putfield 21, 3) := by decide +kernel
theorem dX2_copyFrom_56 : decode cX2_copyFrom 56 = .ok (.return_, 1) := by decide +kernel
theorem dX2_forget_0 : decode cX2_forget 0 = .ok (.aload_n 0, 1) := by decide +kernel
theorem dX2_forget_1 : decode cX2_forget 1 = .ok (.iconst 0, 1) := by decide +kernel
theorem dX2_forget_2 : decode cX2_forget 2 = .ok (.putfield 27, 3) := by decide +kernel
theorem dX2_forget_5 : decode cX2_forget 5 = .ok (.aload_n 0, 1) := by decide +kernel
theorem dX2_forget_6 : decode cX2_forget 6 = .ok (.iconst (-1), 1) := by decide +kernel
theorem dX2_forget_7 : decode cX2_forget 7 = .ok (.putfield 9, 3) := by decide +kernel
theorem dX2_forget_10 : decode cX2_forget 10 = .ok (.aload_n 0, 1) := by decide +kernel
theorem dX2_forget_11 : decode cX2_forget 11 = .ok (.iconst 0, 1) := by decide +kernel
theorem dX2_forget_12 : decode cX2_forget 12 = .ok (.putfield 31, 3) := by decide +kernel
theorem dX2_forget_15 : decode cX2_forget 15 = .ok (.aload_n 0, 1) := by decide +kernel
theorem dX2_forget_16 : decode cX2_forget 16 = .ok (.iconst 0, 1) := by decide +kernel
theorem dX2_forget_17 : decode cX2_forget 17 = .ok (.putfield 34, 3) := by decide +kernel
theorem dX2_forget_20 : decode cX2_forget 20 = .ok (.aload_n 0, 1) := by decide +kernel
theorem dX2_forget_21 : decode cX2_forget 21 = .ok (.iconst (-1), 1) := by decide +kernel
theorem dX2_forget_22 : decode cX2_forget 22 = .ok (.iconst (-1), 1) := by decide +kernel
theorem dX2_forget_23 : decode cX2_forget 23 = .ok (.iconst (-1), 1) := by decide +kernel
theorem dX2_forget_24 : decode cX2_forget 24 = .ok (.invokevirtual 37, 3) := by decide +kernel
theorem dX2_forget_27 : decode cX2_forget 27 = .ok (.return_, 1) := by decide +kernel
theorem dX2_setWishes_0 : decode cX2_setWishes 0 = .ok (.aload_n 0, 1) := by decide +kernel
theorem dX2_setWishes_1 : decode cX2_setWishes 1 = .ok (.iload_n 1, 1) := by decide +kernel
theorem dX2_setWishes_2 : decode cX2_setWishes 2 = .ok (.putfield 15, 3) := by decide +kernel
theorem dX2_setWishes_5 : decode cX2_setWishes 5 = .ok (.aload_n 0, 1) := by decide +kernel
theorem dX2_setWishes_6 : decode cX2_setWishes 6 = .ok (.iload_n 2, 1) := by decide +kernel
theorem dX2_setWishes_7 : decode cX2_setWishes 7 = .ok (.putfield 18, 3) := by decide +kernel
theorem dX2_setWishes_10 : decode cX2_setWishes 10 = .ok (.aload_n 0, 1) := by decide +kernel
theorem dX2_setWishes_11 : decode cX2_setWishes 11 = .ok (.iload_n 3, 1) := by decide +kernel
theorem dX2_setWishes_12 : decode cX2_setWishes 12 = .ok (.putfield 21, 3) := by decide +kernel
theorem dX2_setWishes_15 : decode cX2_setWishes 15 = .ok (.return_, 1) := by decide +kernel
theorem dX2_wishAt_0 : decode cX2_wishAt 0 = .ok (.iload_n 1, 1) := by decide +kernel
theorem dX2_wishAt_1 : decode cX2_wishAt 1 = .ok (.tableswitch 42 0 2 #[27, 32, 37], 27) := by decide +kernel
theorem dX2_wishAt_28 : decode cX2_wishAt 28 = .ok (.aload_n 0, 1) := by decide +kernel
theorem dX2_wishAt_29 : decode cX2_wishAt 29 = .ok (.getfield 15, 3) := by decide +kernel
theorem dX2_wishAt_32 : decode cX2_wishAt 32 = .ok (.ireturn, 1) := by decide +kernel
theorem dX2_wishAt_33 : decode cX2_wishAt 33 = .ok (.aload_n 0, 1) := by decide +kernel
theorem dX2_wishAt_34 : decode cX2_wishAt 34 = .ok (.getfield 18, 3) := by decide +kernel
theorem dX2_wishAt_37 : decode cX2_wishAt 37 = .ok (.ireturn, 1) := by decide +kernel
theorem dX2_wishAt_38 : decode cX2_wishAt 38 = .ok (.aload_n 0, 1) := by decide +kernel
theorem dX2_wishAt_39 : decode cX2_wishAt 39 = .ok (.getfield 21, 3) := by decide +kernel
theorem dX2_wishAt_42 : decode cX2_wishAt 42 = .ok (.ireturn, 1) := by decide +kernel
theorem dX2_wishAt_43 : decode cX2_wishAt 43 = .ok (.iconst (-1), 1) := by decide +kernel
theorem dX2_wishAt_44 : decode cX2_wishAt 44 = .ok (.ireturn, 1) := by decide +kernel
theorem dX2_rankOf_0 : decode cX2_rankOf 0 = .ok (.iload_n 1, 1) := by decide +kernel
theorem dX2_rankOf_1 : decode cX2_rankOf 1 = .ok (.aload_n 0, 1) := by decide +kernel
theorem dX2_rankOf_2 : decode cX2_rankOf 2 = .ok (.getfield 15, 3) := by decide +kernel
theorem dX2_rankOf_5 : decode cX2_rankOf 5 = .ok (.if_icmp .ne 5, 3) := by decide +kernel
theorem dX2_rankOf_8 : decode cX2_rankOf 8 = .ok (.iconst 0, 1) := by decide +kernel
theorem dX2_rankOf_9 : decode cX2_rankOf 9 = .ok (.ireturn, 1) := by decide +kernel
theorem dX2_rankOf_10 : decode cX2_rankOf 10 = .ok (.iload_n 1, 1) := by decide +kernel
theorem dX2_rankOf_11 : decode cX2_rankOf 11 = .ok (.aload_n 0, 1) := by decide +kernel
theorem dX2_rankOf_12 : decode cX2_rankOf 12 = .ok (.getfield 18, 3) := by decide +kernel
theorem dX2_rankOf_15 : decode cX2_rankOf 15 = .ok (.if_icmp .ne 5, 3) := by decide +kernel
theorem dX2_rankOf_18 : decode cX2_rankOf 18 = .ok (.iconst 1, 1) := by decide +kernel
theorem dX2_rankOf_19 : decode cX2_rankOf 19 = .ok (.ireturn, 1) := by decide +kernel
theorem dX2_rankOf_20 : decode cX2_rankOf 20 = .ok (.iload_n 1, 1) := by decide +kernel
theorem dX2_rankOf_21 : decode cX2_rankOf 21 = .ok (.aload_n 0, 1) := by decide +kernel
theorem dX2_rankOf_22 : decode cX2_rankOf 22 = .ok (.getfield 21, 3) := by decide +kernel
theorem dX2_rankOf_25 : decode cX2_rankOf 25 = .ok (.if_icmp .ne 7, 3) := by decide +kernel
theorem dX2_rankOf_28 : decode cX2_rankOf 28 = .ok (.iconst 2, 1) := by decide +kernel
theorem dX2_rankOf_29 : decode cX2_rankOf 29 = .ok (.goto 4, 3) := by decide +kernel
theorem dX2_rankOf_32 : decode cX2_rankOf 32 = .ok (.iconst 3, 1) := by decide +kernel
theorem dX2_rankOf_33 : decode cX2_rankOf 33 = .ok (.ireturn, 1) := by decide +kernel
theorem dX2_rankHeld_0 : decode cX2_rankHeld 0 = .ok (.aload_n 0, 1) := by decide +kernel
theorem dX2_rankHeld_1 : decode cX2_rankHeld 1 = .ok (.getfield 9, 3) := by decide +kernel
theorem dX2_rankHeld_4 : decode cX2_rankHeld 4 = .ok (.iconst (-1), 1) := by decide +kernel
theorem dX2_rankHeld_5 : decode cX2_rankHeld 5 = .ok (.if_icmp .ne 7, 3) := by decide +kernel
theorem dX2_rankHeld_8 : decode cX2_rankHeld 8 = .ok (.iconst 4, 1) := by decide +kernel
theorem dX2_rankHeld_9 : decode cX2_rankHeld 9 = .ok (.goto 11, 3) := by decide +kernel
theorem dX2_rankHeld_12 : decode cX2_rankHeld 12 = .ok (.aload_n 0, 1) := by decide +kernel
theorem dX2_rankHeld_13 : decode cX2_rankHeld 13 = .ok (.aload_n 0, 1) := by decide +kernel
theorem dX2_rankHeld_14 : decode cX2_rankHeld 14 = .ok (.getfield 9, 3) := by decide +kernel
theorem dX2_rankHeld_17 : decode cX2_rankHeld 17 = .ok (.invokevirtual 41, 3) := by decide +kernel
theorem dX2_rankHeld_20 : decode cX2_rankHeld 20 = .ok (.ireturn, 1) := by decide +kernel
theorem dX2_waitsFor_0 : decode cX2_waitsFor 0 = .ok (.aload_n 0, 1) := by decide +kernel
theorem dX2_waitsFor_1 : decode cX2_waitsFor 1 = .ok (.iload_n 1, 1) := by decide +kernel
theorem dX2_waitsFor_2 : decode cX2_waitsFor 2 = .ok (.invokevirtual 41, 3) := by decide +kernel
theorem dX2_waitsFor_5 : decode cX2_waitsFor 5 = .ok (.istore_n 2, 1) := by decide +kernel
theorem dX2_waitsFor_6 : decode cX2_waitsFor 6 = .ok (.aload_n 0, 1) := by decide +kernel
theorem dX2_waitsFor_7 : decode cX2_waitsFor 7 = .ok (.getfield 27, 3) := by decide +kernel
theorem dX2_waitsFor_10 : decode cX2_waitsFor 10 = .ok (.ifCond .eq 20, 3) := by decide +kernel
theorem dX2_waitsFor_13 : decode cX2_waitsFor 13 = .ok (.iload_n 2, 1) := by decide +kernel
theorem dX2_waitsFor_14 : decode cX2_waitsFor 14 = .ok (.iconst 3, 1) := by decide +kernel
theorem dX2_waitsFor_15 : decode cX2_waitsFor 15 = .ok (.if_icmp .ge 15, 3) := by decide +kernel
theorem dX2_waitsFor_18 : decode cX2_waitsFor 18 = .ok (.iload_n 2, 1) := by decide +kernel
theorem dX2_waitsFor_19 : decode cX2_waitsFor 19 = .ok (.aload_n 0, 1) := by decide +kernel
theorem dX2_waitsFor_20 : decode cX2_waitsFor 20 = .ok (.invokevirtual 45, 3) := by decide +kernel
theorem dX2_waitsFor_23 : decode cX2_waitsFor 23 = .ok (.if_icmp .ge 7, 3) := by decide +kernel
theorem dX2_waitsFor_26 : decode cX2_waitsFor 26 = .ok (.iconst 1, 1) := by decide +kernel
theorem dX2_waitsFor_27 : decode cX2_waitsFor 27 = .ok (.goto 4, 3) := by decide +kernel
theorem dX2_waitsFor_30 : decode cX2_waitsFor 30 = .ok (.iconst 0, 1) := by decide +kernel
theorem dX2_waitsFor_31 : decode cX2_waitsFor 31 = .ok (.ireturn, 1) := by decide +kernel
theorem dX3_init_0 : decode cX3_init 0 = .ok (.aload_n 0, 1) := by decide +kernel
theorem dX3_init_1 : decode cX3_init 1 = .ok (.invokespecial 3, 3) := by decide +kernel
theorem dX3_init_4 : decode cX3_init 4 = .ok (.aload_n 0, 1) := by decide +kernel
theorem dX3_init_5 : decode cX3_init 5 = .ok (.bipush 8, 2) := by decide +kernel
theorem dX3_init_7 : decode cX3_init 7 = .ok (.anewarray 9, 3) := by decide +kernel
theorem dX3_init_10 : decode cX3_init 10 = .ok (.putfield 11, 3) := by decide +kernel
theorem dX3_init_13 : decode cX3_init 13 = .ok (.aload_n 0, 1) := by decide +kernel
theorem dX3_init_14 : decode cX3_init 14 = .ok (.bipush 30, 2) := by decide +kernel
theorem dX3_init_16 : decode cX3_init 16 = .ok (.anewarray 17, 3) := by decide +kernel
theorem dX3_init_19 : decode cX3_init 19 = .ok (.putfield 19, 3) := by decide +kernel
theorem dX3_init_22 : decode cX3_init 22 = .ok (.aload_n 0, 1) := by decide +kernel
theorem dX3_init_23 : decode cX3_init 23 = .ok (.iconst 5, 1) := by decide +kernel
theorem dX3_init_24 : decode cX3_init 24 = .ok (.newarray .int, 2) := by decide +kernel
theorem dX3_init_26 : decode cX3_init 26 = .ok (.putfield 23, 3) := by decide +kernel
theorem dX3_init_29 : decode cX3_init 29 = .ok (.iconst 0, 1) := by decide +kernel
theorem dX3_init_30 : decode cX3_init 30 = .ok (.istore_n 1, 1) := by decide +kernel
theorem dX3_init_31 : decode cX3_init 31 = .ok (.iload_n 1, 1) := by decide +kernel
theorem dX3_init_32 : decode cX3_init 32 = .ok (.aload_n 0, 1) := by decide +kernel
theorem dX3_init_33 : decode cX3_init 33 = .ok (.getfield 11, 3) := by decide +kernel
theorem dX3_init_36 : decode cX3_init 36 = .ok (.arraylength, 1) := by decide +kernel
theorem dX3_init_37 : decode cX3_init 37 = .ok (.if_icmp .ge 23, 3) := by decide +kernel
theorem dX3_init_40 : decode cX3_init 40 = .ok (.aload_n 0, 1) := by decide +kernel
theorem dX3_init_41 : decode cX3_init 41 = .ok (.getfield 11, 3) := by decide +kernel
theorem dX3_init_44 : decode cX3_init 44 = .ok (.iload_n 1, 1) := by decide +kernel
theorem dX3_init_45 : decode cX3_init 45 = .ok (.new 9, 3) := by decide +kernel
theorem dX3_init_48 : decode cX3_init 48 = .ok (.dup, 1) := by decide +kernel
theorem dX3_init_49 : decode cX3_init 49 = .ok (.iload_n 1, 1) := by decide +kernel
theorem dX3_init_50 : decode cX3_init 50 = .ok (.invokespecial 27, 3) := by decide +kernel
theorem dX3_init_53 : decode cX3_init 53 = .ok (.aastore, 1) := by decide +kernel
theorem dX3_init_54 : decode cX3_init 54 = .ok (.iinc 1 1, 3) := by decide +kernel
theorem dX3_init_57 : decode cX3_init 57 = .ok (.goto (-26), 3) := by decide +kernel
theorem dX3_init_60 : decode cX3_init 60 = .ok (.iconst 0, 1) := by decide +kernel
theorem dX3_init_61 : decode cX3_init 61 = .ok (.istore_n 1, 1) := by decide +kernel
theorem dX3_init_62 : decode cX3_init 62 = .ok (.iload_n 1, 1) := by decide +kernel
theorem dX3_init_63 : decode cX3_init 63 = .ok (.aload_n 0, 1) := by decide +kernel
theorem dX3_init_64 : decode cX3_init 64 = .ok (.getfield 19, 3) := by decide +kernel
theorem dX3_init_67 : decode cX3_init 67 = .ok (.arraylength, 1) := by decide +kernel
theorem dX3_init_68 : decode cX3_init 68 = .ok (.if_icmp .ge 23, 3) := by decide +kernel
theorem dX3_init_71 : decode cX3_init 71 = .ok (.aload_n 0, 1) := by decide +kernel
theorem dX3_init_72 : decode cX3_init 72 = .ok (.getfield 19, 3) := by decide +kernel
theorem dX3_init_75 : decode cX3_init 75 = .ok (.iload_n 1, 1) := by decide +kernel
theorem dX3_init_76 : decode cX3_init 76 = .ok (.new 17, 3) := by decide +kernel
theorem dX3_init_79 : decode cX3_init 79 = .ok (.dup, 1) := by decide +kernel
theorem dX3_init_80 : decode cX3_init 80 = .ok (.iload_n 1, 1) := by decide +kernel
theorem dX3_init_81 : decode cX3_init 81 = .ok (.invokespecial 30, 3) := by decide +kernel
theorem dX3_init_84 : decode cX3_init 84 = .ok (.aastore, 1) := by decide +kernel
theorem dX3_init_85 : decode cX3_init 85 = .ok (.iinc 1 1, 3) := by decide +kernel
theorem dX3_init_88 : decode cX3_init 88 = .ok (.goto (-26), 3) := by decide +kernel
theorem dX3_init_91 : decode cX3_init 91 = .ok (.return_, 1) := by decide +kernel
theorem dX3_copyFrom_0 : decode cX3_copyFrom 0 = .ok (.iconst 0, 1) := by decide +kernel
theorem dX3_copyFrom_1 : decode cX3_copyFrom 1 = .ok (.istore_n 2, 1) := by decide +kernel
theorem dX3_copyFrom_2 : decode cX3_copyFrom 2 = .ok (.iload_n 2, 1) := by decide +kernel
theorem dX3_copyFrom_3 : decode cX3_copyFrom 3 = .ok (.aload_n 0, 1) := by decide +kernel
theorem dX3_copyFrom_4 : decode cX3_copyFrom 4 = .ok (.getfield 11, 3) := by decide +kernel
theorem dX3_copyFrom_7 : decode cX3_copyFrom 7 = .ok (.arraylength, 1) := by decide +kernel
theorem dX3_copyFrom_8 : decode cX3_copyFrom 8 = .ok (.if_icmp .ge 51, 3) := by decide +kernel
theorem dX3_copyFrom_11 : decode cX3_copyFrom 11 = .ok (.iload_n 2, 1) := by decide +kernel
theorem dX3_copyFrom_12 : decode cX3_copyFrom 12 = .ok (.aload_n 1, 1) := by decide +kernel
theorem dX3_copyFrom_13 : decode cX3_copyFrom 13 = .ok (.getfield 11, 3) := by decide +kernel
theorem dX3_copyFrom_16 : decode cX3_copyFrom 16 = .ok (.arraylength, 1) := by decide +kernel
theorem dX3_copyFrom_17 : decode cX3_copyFrom 17 = .ok (.if_icmp .ge 42, 3) := by decide +kernel
theorem dX3_copyFrom_20 : decode cX3_copyFrom 20 = .ok (.aload_n 0, 1) := by decide +kernel
theorem dX3_copyFrom_21 : decode cX3_copyFrom 21 = .ok (.getfield 11, 3) := by decide +kernel
theorem dX3_copyFrom_24 : decode cX3_copyFrom 24 = .ok (.iload_n 2, 1) := by decide +kernel
theorem dX3_copyFrom_25 : decode cX3_copyFrom 25 = .ok (.aaload, 1) := by decide +kernel
theorem dX3_copyFrom_26 : decode cX3_copyFrom 26 = .ok (.ifnull 27, 3) := by decide +kernel
theorem dX3_copyFrom_29 : decode cX3_copyFrom 29 = .ok (.aload_n 1, 1) := by decide +kernel
theorem dX3_copyFrom_30 : decode cX3_copyFrom 30 = .ok (.getfield 11, 3) := by decide +kernel
theorem dX3_copyFrom_33 : decode cX3_copyFrom 33 = .ok (.iload_n 2, 1) := by decide +kernel
theorem dX3_copyFrom_34 : decode cX3_copyFrom 34 = .ok (.aaload, 1) := by decide +kernel
theorem dX3_copyFrom_35 : decode cX3_copyFrom 35 = .ok (.ifnull 18, 3) := by decide +kernel
theorem dX3_copyFrom_38 : decode cX3_copyFrom 38 = .ok (.aload_n 0, 1) := by decide +kernel
theorem dX3_copyFrom_39 : decode cX3_copyFrom 39 = .ok (.getfield 11, 3) := by decide +kernel
theorem dX3_copyFrom_42 : decode cX3_copyFrom 42 = .ok (.iload_n 2, 1) := by decide +kernel
theorem dX3_copyFrom_43 : decode cX3_copyFrom 43 = .ok (.aaload, 1) := by decide +kernel
theorem dX3_copyFrom_44 : decode cX3_copyFrom 44 = .ok (.aload_n 1, 1) := by decide +kernel
theorem dX3_copyFrom_45 : decode cX3_copyFrom 45 = .ok (.getfield 11, 3) := by decide +kernel
theorem dX3_copyFrom_48 : decode cX3_copyFrom 48 = .ok (.iload_n 2, 1) := by decide +kernel
theorem dX3_copyFrom_49 : decode cX3_copyFrom 49 = .ok (.aaload, 1) := by decide +kernel
theorem dX3_copyFrom_50 : decode cX3_copyFrom 50 = .ok (.invokevirtual 31, 3) := by decide +kernel
theorem dX3_copyFrom_53 : decode cX3_copyFrom 53 = .ok (.iinc 2 1, 3) := by decide +kernel
theorem dX3_copyFrom_56 : decode cX3_copyFrom 56 = .ok (.goto (-54), 3) := by decide +kernel
theorem dX3_copyFrom_59 : decode cX3_copyFrom 59 = .ok (.iconst 0, 1) := by decide +kernel
theorem dX3_copyFrom_60 : decode cX3_copyFrom 60 = .ok (.istore_n 2, 1) := by decide +kernel
theorem dX3_copyFrom_61 : decode cX3_copyFrom 61 = .ok (.iload_n 2, 1) := by decide +kernel
theorem dX3_copyFrom_62 : decode cX3_copyFrom 62 = .ok (.aload_n 0, 1) := by decide +kernel
theorem dX3_copyFrom_63 : decode cX3_copyFrom 63 = .ok (.getfield 19, 3) := by decide +kernel
theorem dX3_copyFrom_66 : decode cX3_copyFrom 66 = .ok (.arraylength, 1) := by decide +kernel
theorem dX3_copyFrom_67 : decode cX3_copyFrom 67 = .ok (.if_icmp .ge 51, 3) := by decide +kernel
theorem dX3_copyFrom_70 : decode cX3_copyFrom 70 = .ok (.iload_n 2, 1) := by decide +kernel
theorem dX3_copyFrom_71 : decode cX3_copyFrom 71 = .ok (.aload_n 1, 1) := by decide +kernel
theorem dX3_copyFrom_72 : decode cX3_copyFrom 72 = .ok (.getfield 19, 3) := by decide +kernel
theorem dX3_copyFrom_75 : decode cX3_copyFrom 75 = .ok (.arraylength, 1) := by decide +kernel
theorem dX3_copyFrom_76 : decode cX3_copyFrom 76 = .ok (.if_icmp .ge 42, 3) := by decide +kernel
theorem dX3_copyFrom_79 : decode cX3_copyFrom 79 = .ok (.aload_n 0, 1) := by decide +kernel
theorem dX3_copyFrom_80 : decode cX3_copyFrom 80 = .ok (.getfield 19, 3) := by decide +kernel
theorem dX3_copyFrom_83 : decode cX3_copyFrom 83 = .ok (.iload_n 2, 1) := by decide +kernel
theorem dX3_copyFrom_84 : decode cX3_copyFrom 84 = .ok (.aaload, 1) := by decide +kernel
theorem dX3_copyFrom_85 : decode cX3_copyFrom 85 = .ok (.ifnull 27, 3) := by decide +kernel
theorem dX3_copyFrom_88 : decode cX3_copyFrom 88 = .ok (.aload_n 1, 1) := by decide +kernel
theorem dX3_copyFrom_89 : decode cX3_copyFrom 89 = .ok (.getfield 19, 3) := by decide +kernel
theorem dX3_copyFrom_92 : decode cX3_copyFrom 92 = .ok (.iload_n 2, 1) := by decide +kernel
theorem dX3_copyFrom_93 : decode cX3_copyFrom 93 = .ok (.aaload, 1) := by decide +kernel
theorem dX3_copyFrom_94 : decode cX3_copyFrom 94 = .ok (.ifnull 18, 3) := by decide +kernel
theorem dX3_copyFrom_97 : decode cX3_copyFrom 97 = .ok (.aload_n 0, 1) := by decide +kernel
theorem dX3_copyFrom_98 : decode cX3_copyFrom 98 = .ok (.getfield 19, 3) := by decide +kernel
theorem dX3_copyFrom_101 : decode cX3_copyFrom 101 = .ok (.iload_n 2, 1) := by decide +kernel
theorem dX3_copyFrom_102 : decode cX3_copyFrom 102 = .ok (.aaload, 1) := by decide +kernel
theorem dX3_copyFrom_103 : decode cX3_copyFrom 103 = .ok (.aload_n 1, 1) := by decide +kernel
theorem dX3_copyFrom_104 : decode cX3_copyFrom 104 = .ok (.getfield 19, 3) := by decide +kernel
theorem dX3_copyFrom_107 : decode cX3_copyFrom 107 = .ok (.iload_n 2, 1) := by decide +kernel
theorem dX3_copyFrom_108 : decode cX3_copyFrom 108 = .ok (.aaload, 1) := by decide +kernel
theorem dX3_copyFrom_109 : decode cX3_copyFrom 109 = .ok (.invokevirtual 35, 3) := by decide +kernel
theorem dX3_copyFrom_112 : decode cX3_copyFrom 112 = .ok (.iinc 2 1, 3) := by decide +kernel
theorem dX3_copyFrom_115 : decode cX3_copyFrom 115 = .ok (.goto (-54), 3) := by decide +kernel
theorem dX3_copyFrom_118 : decode cX3_copyFrom 118 = .ok (.aload_n 1, 1) := by decide +kernel
theorem dX3_copyFrom_119 : decode cX3_copyFrom 119 = .ok (.getfield 23, 3) := by decide +kernel
theorem dX3_copyFrom_122 : decode cX3_copyFrom 122 = .ok (.iconst 0, 1) := by decide +kernel
theorem dX3_copyFrom_123 : decode cX3_copyFrom 123 = .ok (.aload_n 0, 1) := by decide +kernel
theorem dX3_copyFrom_124 : decode cX3_copyFrom 124 = .ok (.getfield 23, 3) := by decide +kernel
theorem dX3_copyFrom_127 : decode cX3_copyFrom 127 = .ok (.iconst 0, 1) := by decide +kernel
theorem dX3_copyFrom_128 : decode cX3_copyFrom 128 = .ok (.aload_n 1, 1) := by decide +kernel
theorem dX3_copyFrom_129 : decode cX3_copyFrom 129 = .ok (.getfield 23, 3) := by decide +kernel
theorem dX3_copyFrom_132 : decode cX3_copyFrom 132 = .ok (.arraylength, 1) := by decide +kernel
theorem dX3_copyFrom_133 : decode cX3_copyFrom 133 = .ok (.aload_n 0, 1) := by decide +kernel
theorem dX3_copyFrom_134 : decode cX3_copyFrom 134 = .ok (.getfield 23, 3) := by decide +kernel
theorem dX3_copyFrom_137 : decode cX3_copyFrom 137 = .ok (.arraylength, 1) := by decide +kernel
theorem dX3_copyFrom_138 : decode cX3_copyFrom 138 = .ok (.invokestatic 38, 3) := by decide +kernel
theorem dX3_copyFrom_141 : decode cX3_copyFrom 141 = .ok (.invokestatic 44, 3) := by decide +kernel
theorem dX3_copyFrom_144 : decode cX3_copyFrom 144 = .ok (.aload_n 0, 1) := by decide +kernel
theorem dX3_copyFrom_145 : decode cX3_copyFrom 145 = .ok (.aload_n 1, 1) := by decide +kernel
theorem dX3_copyFrom_146 : decode cX3_copyFrom 146 = .ok (.getfield 50, 3) := by decide +kernel
theorem dX3_copyFrom_149 : decode cX3_copyFrom 149 = .ok (.putfield 50, 3) := by decide +kernel
theorem dX3_copyFrom_152 : decode cX3_copyFrom 152 = .ok (.aload_n 0, 1) := by decide +kernel
theorem dX3_copyFrom_153 : decode cX3_copyFrom 153 = .ok (.aload_n 1, 1) := by decide +kernel
theorem dX3_copyFrom_154 : decode cX3_copyFrom 154 = .ok (.getfield 54, 3) := by decide +kernel
theorem dX3_copyFrom_157 : decode cX3_copyFrom 157 = .ok (.putfield 54, 3) := by decide +kernel
theorem dX3_copyFrom_160 : decode cX3_copyFrom 160 = .ok (.aload_n 0, 1) := by decide +kernel
theorem dX3_copyFrom_161 : decode cX3_copyFrom 161 = .ok (.aload_n 1, 1) := by decide +kernel
theorem dX3_copyFrom_162 : decode cX3_copyFrom 162 = .ok (.getfield 57, 3) := by decide +kernel
theorem dX3_copyFrom_165 : decode cX3_copyFrom 165 = .ok (.putfield 57, 3) := by decide +kernel
theorem dX3_copyFrom_168 : decode cX3_copyFrom 168 = .ok (.aload_n 0, 1) := by decide +kernel
theorem dX3_copyFrom_169 : decode cX3_copyFrom 169 = .ok (.aload_n 1, 1) := by decide +kernel
theorem dX3_copyFrom_170 : decode cX3_copyFrom 170 = .ok (.getfield 60, 3) := by decide +kernel
theorem dX3_copyFrom_173 : decode cX3_copyFrom 173 = .ok (.putfield 60, 3) := by decide +kernel
theorem dX3_copyFrom_176 : decode cX3_copyFrom 176 = .ok (.aload_n 0, 1) := by decide +kernel
theorem dX3_copyFrom_177 : decode cX3_copyFrom 177 = .ok (.aload_n 1, 1) := by decide +kernel
theorem dX3_copyFrom_178 : decode cX3_copyFrom 178 = .ok (.getfield 63, 3) := by decide +kernel
theorem dX3_copyFrom_181 : decode cX3_copyFrom 181 = .ok (.putfield 63, 3) := by decide +kernel
theorem dX3_copyFrom_184 : decode cX3_copyFrom 184 = .ok (.aload_n 0, 1) := by decide +kernel
theorem dX3_copyFrom_185 : decode cX3_copyFrom 185 = .ok (.aload_n 1, 1) := by decide +kernel
theorem dX3_copyFrom_186 : decode cX3_copyFrom 186 = .ok (.getfield 67, 3) := by decide +kernel
theorem dX3_copyFrom_189 : decode cX3_copyFrom 189 = .ok (.putfield 67, 3) := by decide +kernel
theorem dX3_copyFrom_192 : decode cX3_copyFrom 192 = .ok (.aload_n 0, 1) := by decide +kernel
theorem dX3_copyFrom_193 : decode cX3_copyFrom 193 = .ok (.aload_n 1, 1) := by decide +kernel
theorem dX3_copyFrom_194 : decode cX3_copyFrom 194 = .ok (.getfield 70, 3) := by decide +kernel
theorem dX3_copyFrom_197 : decode cX3_copyFrom 197 = .ok (.putfield 70, 3) := by decide +kernel
theorem dX3_copyFrom_200 : decode cX3_copyFrom 200 = .ok (.aload_n 0, 1) := by decide +kernel
theorem dX3_copyFrom_201 : decode cX3_copyFrom 201 = .ok (.aload_n 1, 1) := by decide +kernel
theorem dX3_copyFrom_202 : decode cX3_copyFrom 202 = .ok (.getfield 73, 3) := by decide +kernel
theorem dX3_copyFrom_205 : decode cX3_copyFrom 205 = .ok (.putfield 73, 3) := by decide +kernel
theorem dX3_copyFrom_208 : decode cX3_copyFrom 208 = .ok (.aload_n 0, 1) := by decide +kernel
theorem dX3_copyFrom_209 : decode cX3_copyFrom 209 = .ok (.aload_n 1, 1) := by decide +kernel
theorem dX3_copyFrom_210 : decode cX3_copyFrom 210 = .ok (.getfield 76, 3) := by decide +kernel
theorem dX3_copyFrom_213 : decode cX3_copyFrom 213 = .ok (.putfield 76, 3) := by decide +kernel
theorem dX3_copyFrom_216 : decode cX3_copyFrom 216 = .ok (.aload_n 0, 1) := by decide +kernel
theorem dX3_copyFrom_217 : decode cX3_copyFrom 217 = .ok (.aload_n 1, 1) := by decide +kernel
theorem dX3_copyFrom_218 : decode cX3_copyFrom 218 = .ok (.getfield 79, 3) := by decide +kernel
theorem dX3_copyFrom_221 : decode cX3_copyFrom 221 = .ok (.putfield 79, 3) := by decide +kernel
theorem dX3_copyFrom_224 : decode cX3_copyFrom 224 = .ok (.aload_n 0, 1) := by decide +kernel
theorem dX3_copyFrom_225 : decode cX3_copyFrom 225 = .ok (.aload_n 1, 1) := by decide +kernel
theorem dX3_copyFrom_226 : decode cX3_copyFrom 226 = .ok (.getfield 82, 3) := by decide +kernel
theorem dX3_copyFrom_229 : decode cX3_copyFrom 229 = .ok (.putfield 82, 3) := by decide +kernel
theorem dX3_copyFrom_232 : decode cX3_copyFrom 232 = .ok (.return_, 1) := by decide +kernel
theorem dX3_courseAt_0 : decode cX3_courseAt 0 = .ok (.iload_n 1, 1) := by decide +kernel
theorem dX3_courseAt_1 : decode cX3_courseAt 1 = .ok (.ifCond .lt 29, 3) := by decide +kernel
theorem dX3_courseAt_4 : decode cX3_courseAt 4 = .ok (.iload_n 1, 1) := by decide +kernel
theorem dX3_courseAt_5 : decode cX3_courseAt 5 = .ok (.aload_n 0, 1) := by decide +kernel
theorem dX3_courseAt_6 : decode cX3_courseAt 6 = .ok (.getfield 50, 3) := by decide +kernel
theorem dX3_courseAt_9 : decode cX3_courseAt 9 = .ok (.if_icmp .ge 21, 3) := by decide +kernel
theorem dX3_courseAt_12 : decode cX3_courseAt 12 = .ok (.iload_n 1, 1) := by decide +kernel
theorem dX3_courseAt_13 : decode cX3_courseAt 13 = .ok (.aload_n 0, 1) := by decide +kernel
theorem dX3_courseAt_14 : decode cX3_courseAt 14 = .ok (.getfield 11, 3) := by decide +kernel
theorem dX3_courseAt_17 : decode cX3_courseAt 17 = .ok (.arraylength, 1) := by decide +kernel
theorem dX3_courseAt_18 : decode cX3_courseAt 18 = .ok (.if_icmp .ge 12, 3) := by decide +kernel
theorem dX3_courseAt_21 : decode cX3_courseAt 21 = .ok (.aload_n 0, 1) := by decide +kernel
theorem dX3_courseAt_22 : decode cX3_courseAt 22 = .ok (.getfield 11, 3) := by decide +kernel
theorem dX3_courseAt_25 : decode cX3_courseAt 25 = .ok (.iload_n 1, 1) := by decide +kernel
theorem dX3_courseAt_26 : decode cX3_courseAt 26 = .ok (.aaload, 1) := by decide +kernel
theorem dX3_courseAt_27 : decode cX3_courseAt 27 = .ok (.goto 4, 3) := by decide +kernel
theorem dX3_courseAt_30 : decode cX3_courseAt 30 = .ok (.aconst_null, 1) := by decide +kernel
theorem dX3_courseAt_31 : decode cX3_courseAt 31 = .ok (.areturn, 1) := by decide +kernel
theorem dX3_personAt_0 : decode cX3_personAt 0 = .ok (.iload_n 1, 1) := by decide +kernel
theorem dX3_personAt_1 : decode cX3_personAt 1 = .ok (.ifCond .lt 29, 3) := by decide +kernel
theorem dX3_personAt_4 : decode cX3_personAt 4 = .ok (.iload_n 1, 1) := by decide +kernel
theorem dX3_personAt_5 : decode cX3_personAt 5 = .ok (.aload_n 0, 1) := by decide +kernel
theorem dX3_personAt_6 : decode cX3_personAt 6 = .ok (.getfield 54, 3) := by decide +kernel
theorem dX3_personAt_9 : decode cX3_personAt 9 = .ok (.if_icmp .ge 21, 3) := by decide +kernel
theorem dX3_personAt_12 : decode cX3_personAt 12 = .ok (.iload_n 1, 1) := by decide +kernel
theorem dX3_personAt_13 : decode cX3_personAt 13 = .ok (.aload_n 0, 1) := by decide +kernel
theorem dX3_personAt_14 : decode cX3_personAt 14 = .ok (.getfield 19, 3) := by decide +kernel
theorem dX3_personAt_17 : decode cX3_personAt 17 = .ok (.arraylength, 1) := by decide +kernel
theorem dX3_personAt_18 : decode cX3_personAt 18 = .ok (.if_icmp .ge 12, 3) := by decide +kernel
theorem dX3_personAt_21 : decode cX3_personAt 21 = .ok (.aload_n 0, 1) := by decide +kernel
theorem dX3_personAt_22 : decode cX3_personAt 22 = .ok (.getfield 19, 3) := by decide +kernel
theorem dX3_personAt_25 : decode cX3_personAt 25 = .ok (.iload_n 1, 1) := by decide +kernel
theorem dX3_personAt_26 : decode cX3_personAt 26 = .ok (.aaload, 1) := by decide +kernel
theorem dX3_personAt_27 : decode cX3_personAt 27 = .ok (.goto 4, 3) := by decide +kernel
theorem dX3_personAt_30 : decode cX3_personAt 30 = .ok (.aconst_null, 1) := by decide +kernel
theorem dX3_personAt_31 : decode cX3_personAt 31 = .ok (.areturn, 1) := by decide +kernel
theorem dX3_isRoom_0 : decode cX3_isRoom 0 = .ok (.iload_n 1, 1) := by decide +kernel
theorem dX3_isRoom_1 : decode cX3_isRoom 1 = .ok (.ifCond .lt 15, 3) := by decide +kernel
theorem dX3_isRoom_4 : decode cX3_isRoom 4 = .ok (.iload_n 1, 1) := by decide +kernel
theorem dX3_isRoom_5 : decode cX3_isRoom 5 = .ok (.aload_n 0, 1) := by decide +kernel
theorem dX3_isRoom_6 : decode cX3_isRoom 6 = .ok (.getfield 57, 3) := by decide +kernel
theorem dX3_isRoom_9 : decode cX3_isRoom 9 = .ok (.if_icmp .ge 7, 3) := by decide +kernel
theorem dX3_isRoom_12 : decode cX3_isRoom 12 = .ok (.iconst 1, 1) := by decide +kernel
theorem dX3_isRoom_13 : decode cX3_isRoom 13 = .ok (.goto 4, 3) := by decide +kernel
theorem dX3_isRoom_16 : decode cX3_isRoom 16 = .ok (.iconst 0, 1) := by decide +kernel
theorem dX3_isRoom_17 : decode cX3_isRoom 17 = .ok (.ireturn, 1) := by decide +kernel
theorem dX3_chairsOf_0 : decode cX3_chairsOf 0 = .ok (.iload_n 1, 1) := by decide +kernel
theorem dX3_chairsOf_1 : decode cX3_chairsOf 1 = .ok (.ifCond .lt 21, 3) := by decide +kernel
theorem dX3_chairsOf_4 : decode cX3_chairsOf 4 = .ok (.iload_n 1, 1) := by decide +kernel
theorem dX3_chairsOf_5 : decode cX3_chairsOf 5 = .ok (.aload_n 0, 1) := by decide +kernel
theorem dX3_chairsOf_6 : decode cX3_chairsOf 6 = .ok (.getfield 23, 3) := by decide +kernel
theorem dX3_chairsOf_9 : decode cX3_chairsOf 9 = .ok (.arraylength, 1) := by decide +kernel
theorem dX3_chairsOf_10 : decode cX3_chairsOf 10 = .ok (.if_icmp .ge 12, 3) := by decide +kernel
theorem dX3_chairsOf_13 : decode cX3_chairsOf 13 = .ok (.aload_n 0, 1) := by decide +kernel
theorem dX3_chairsOf_14 : decode cX3_chairsOf 14 = .ok (.getfield 23, 3) := by decide +kernel
theorem dX3_chairsOf_17 : decode cX3_chairsOf 17 = .ok (.iload_n 1, 1) := by decide +kernel
theorem dX3_chairsOf_18 : decode cX3_chairsOf 18 = .ok (.iaload, 1) := by decide +kernel
theorem dX3_chairsOf_19 : decode cX3_chairsOf 19 = .ok (.goto 4, 3) := by decide +kernel
theorem dX3_chairsOf_22 : decode cX3_chairsOf 22 = .ok (.iconst 0, 1) := by decide +kernel
theorem dX3_chairsOf_23 : decode cX3_chairsOf 23 = .ok (.ireturn, 1) := by decide +kernel
theorem dX3_addCourse_0 : decode cX3_addCourse 0 = .ok (.iload_n 1, 1) := by decide +kernel
theorem dX3_addCourse_1 : decode cX3_addCourse 1 = .ok (.iconst 0, 1) := by decide +kernel
theorem dX3_addCourse_2 : decode cX3_addCourse 2 = .ok (.bipush 79, 2) := by decide +kernel
theorem dX3_addCourse_4 : decode cX3_addCourse 4 = .ok (.invokestatic 85, 3) := by decide +kernel
theorem dX3_addCourse_7 : decode cX3_addCourse 7 = .ok (.ifCond .ne 34, 3) := by decide +kernel
theorem dX3_addCourse_10 : decode cX3_addCourse 10 = .ok (.iload_n 2, 1) := by decide +kernel
theorem dX3_addCourse_11 : decode cX3_addCourse 11 = .ok (.iconst 1, 1) := by decide +kernel
theorem dX3_addCourse_12 : decode cX3_addCourse 12 = .ok (.bipush 20, 2) := by decide +kernel
theorem dX3_addCourse_14 : decode cX3_addCourse 14 = .ok (.invokestatic 85, 3) := by decide +kernel
theorem dX3_addCourse_17 : decode cX3_addCourse 17 = .ok (.ifCond .ne 24, 3) := by decide +kernel
theorem dX3_addCourse_20 : decode cX3_addCourse 20 = .ok (.iload_n 3, 1) := by decide +kernel
theorem dX3_addCourse_21 : decode cX3_addCourse 21 = .ok (.iload_n 2, 1) := by decide +kernel
theorem dX3_addCourse_22 : decode cX3_addCourse 22 = .ok (.bipush 20, 2) := by decide +kernel
theorem dX3_addCourse_24 : decode cX3_addCourse 24 = .ok (.invokestatic 85, 3) := by decide +kernel
theorem dX3_addCourse_27 : decode cX3_addCourse 27 = .ok (.ifCond .ne 14, 3) := by decide +kernel
theorem dX3_addCourse_30 : decode cX3_addCourse 30 = .ok (.iload 4, 2) := by decide +kernel
theorem dX3_addCourse_32 : decode cX3_addCourse 32 = .ok (.iconst 0, 1) := by decide +kernel
theorem dX3_addCourse_33 : decode cX3_addCourse 33 = .ok (.bipush 99, 2) := by decide +kernel
theorem dX3_addCourse_35 : decode cX3_addCourse 35 = .ok (.invokestatic 85, 3) := by decide +kernel
theorem dX3_addCourse_38 : decode cX3_addCourse 38 = .ok (.ifCond .eq 6, 3) := by decide +kernel
theorem dX3_addCourse_41 : decode cX3_addCourse 41 = .ok (.ldc 89, 2) := by decide +kernel
theorem dX3_addCourse_43 : decode cX3_addCourse 43 = .ok (.ireturn, 1) := by decide +kernel
theorem dX3_addCourse_44 : decode cX3_addCourse 44 = .ok (.aload_n 0, 1) := by decide +kernel
theorem dX3_addCourse_45 : decode cX3_addCourse 45 = .ok (.getfield 63, 3) := by decide +kernel
theorem dX3_addCourse_48 : decode cX3_addCourse 48 = .ok (.ifCond .eq 6, 3) := by decide +kernel
theorem dX3_addCourse_51 : decode cX3_addCourse 51 = .ok (.ldc 90, 2) := by decide +kernel
theorem dX3_addCourse_53 : decode cX3_addCourse 53 = .ok (.ireturn, 1) := by decide +kernel
theorem dX3_addCourse_54 : decode cX3_addCourse 54 = .ok (.aload_n 0, 1) := by decide +kernel
theorem dX3_addCourse_55 : decode cX3_addCourse 55 = .ok (.getfield 50, 3) := by decide +kernel
theorem dX3_addCourse_58 : decode cX3_addCourse 58 = .ok (.iconst 0, 1) := by decide +kernel
theorem dX3_addCourse_59 : decode cX3_addCourse 59 = .ok (.aload_n 0, 1) := by decide +kernel
theorem dX3_addCourse_60 : decode cX3_addCourse 60 = .ok (.getfield 11, 3) := by decide +kernel
theorem dX3_addCourse_63 : decode cX3_addCourse 63 = .ok (.arraylength, 1) := by decide +kernel
theorem dX3_addCourse_64 : decode cX3_addCourse 64 = .ok (.iconst 1, 1) := by decide +kernel
theorem dX3_addCourse_65 : decode cX3_addCourse 65 = .ok (.isub, 1) := by decide +kernel
theorem dX3_addCourse_66 : decode cX3_addCourse 66 = .ok (.invokestatic 85, 3) := by decide +kernel
theorem dX3_addCourse_69 : decode cX3_addCourse 69 = .ok (.ifCond .eq 7, 3) := by decide +kernel
theorem dX3_addCourse_72 : decode cX3_addCourse 72 = .ok (.aconst_null, 1) := by decide +kernel
theorem dX3_addCourse_73 : decode cX3_addCourse 73 = .ok (.goto 12, 3) := by decide +kernel
theorem dX3_addCourse_76 : decode cX3_addCourse 76 = .ok (.aload_n 0, 1) := by decide +kernel
theorem dX3_addCourse_77 : decode cX3_addCourse 77 = .ok (.getfield 11, 3) := by decide +kernel
theorem dX3_addCourse_80 : decode cX3_addCourse 80 = .ok (.aload_n 0, 1) := by decide +kernel
theorem dX3_addCourse_81 : decode cX3_addCourse 81 = .ok (.getfield 50, 3) := by decide +kernel
theorem dX3_addCourse_84 : decode cX3_addCourse 84 = .ok (.aaload, 1) := by decide +kernel
theorem dX3_addCourse_85 : decode cX3_addCourse 85 = .ok (.astore 5, 2) := by decide +kernel
theorem dX3_addCourse_87 : decode cX3_addCourse 87 = .ok (.aload 5, 2) := by decide +kernel
theorem dX3_addCourse_89 : decode cX3_addCourse 89 = .ok (.ifnonnull 6, 3) := by decide +kernel
theorem dX3_addCourse_92 : decode cX3_addCourse 92 = .ok (.ldc 91, 2) := by decide +kernel
theorem dX3_addCourse_94 : decode cX3_addCourse 94 = .ok (.ireturn, 1) := by decide +kernel
theorem dX3_addCourse_95 : decode cX3_addCourse 95 = .ok (.aload 5, 2) := by decide +kernel
theorem dX3_addCourse_97 : decode cX3_addCourse 97 = .ok (.iload_n 1, 1) := by decide +kernel
theorem dX3_addCourse_98 : decode cX3_addCourse 98 = .ok (.iload_n 2, 1) := by decide +kernel
theorem dX3_addCourse_99 : decode cX3_addCourse 99 = .ok (.iload_n 3, 1) := by decide +kernel
theorem dX3_addCourse_100 : decode cX3_addCourse 100 = .ok (.iload 4, 2) := by decide +kernel
theorem dX3_addCourse_102 : decode cX3_addCourse 102 = .ok (.invokevirtual 92, 3) := by decide +kernel
theorem dX3_addCourse_105 : decode cX3_addCourse 105 = .ok (.aload_n 0, 1) := by decide +kernel
theorem dX3_addCourse_106 : decode cX3_addCourse 106 = .ok (.dup, 1) := by decide +kernel
theorem dX3_addCourse_107 : decode cX3_addCourse 107 = .ok (.getfield 50, 3) := by decide +kernel
theorem dX3_addCourse_110 : decode cX3_addCourse 110 = .ok (.iconst 1, 1) := by decide +kernel
theorem dX3_addCourse_111 : decode cX3_addCourse 111 = .ok (.iadd, 1) := by decide +kernel
theorem dX3_addCourse_112 : decode cX3_addCourse 112 = .ok (.putfield 50, 3) := by decide +kernel
theorem dX3_addCourse_115 : decode cX3_addCourse 115 = .ok (.aload 5, 2) := by decide +kernel
theorem dX3_addCourse_117 : decode cX3_addCourse 117 = .ok (.getfield 96, 3) := by decide +kernel
theorem dX3_addCourse_120 : decode cX3_addCourse 120 = .ok (.ireturn, 1) := by decide +kernel
theorem dX3_addRoom_0 : decode cX3_addRoom 0 = .ok (.iload_n 1, 1) := by decide +kernel
theorem dX3_addRoom_1 : decode cX3_addRoom 1 = .ok (.iconst 1, 1) := by decide +kernel
theorem dX3_addRoom_2 : decode cX3_addRoom 2 = .ok (.bipush 30, 2) := by decide +kernel
theorem dX3_addRoom_4 : decode cX3_addRoom 4 = .ok (.invokestatic 85, 3) := by decide +kernel
theorem dX3_addRoom_7 : decode cX3_addRoom 7 = .ok (.ifCond .eq 6, 3) := by decide +kernel
theorem dX3_addRoom_10 : decode cX3_addRoom 10 = .ok (.ldc 89, 2) := by decide +kernel
theorem dX3_addRoom_12 : decode cX3_addRoom 12 = .ok (.ireturn, 1) := by decide +kernel
theorem dX3_addRoom_13 : decode cX3_addRoom 13 = .ok (.aload_n 0, 1) := by decide +kernel
theorem dX3_addRoom_14 : decode cX3_addRoom 14 = .ok (.getfield 63, 3) := by decide +kernel
theorem dX3_addRoom_17 : decode cX3_addRoom 17 = .ok (.ifCond .eq 6, 3) := by decide +kernel
theorem dX3_addRoom_20 : decode cX3_addRoom 20 = .ok (.ldc 90, 2) := by decide +kernel
theorem dX3_addRoom_22 : decode cX3_addRoom 22 = .ok (.ireturn, 1) := by decide +kernel
theorem dX3_addRoom_23 : decode cX3_addRoom 23 = .ok (.aload_n 0, 1) := by decide +kernel
theorem dX3_addRoom_24 : decode cX3_addRoom 24 = .ok (.getfield 57, 3) := by decide +kernel
theorem dX3_addRoom_27 : decode cX3_addRoom 27 = .ok (.iconst 0, 1) := by decide +kernel
theorem dX3_addRoom_28 : decode cX3_addRoom 28 = .ok (.aload_n 0, 1) := by decide +kernel
theorem dX3_addRoom_29 : decode cX3_addRoom 29 = .ok (.getfield 23, 3) := by decide +kernel
theorem dX3_addRoom_32 : decode cX3_addRoom 32 = .ok (.arraylength, 1) := by decide +kernel
theorem dX3_addRoom_33 : decode cX3_addRoom 33 = .ok (.iconst 1, 1) := by decide +kernel
theorem dX3_addRoom_34 : decode cX3_addRoom 34 = .ok (.isub, 1) := by decide +kernel
theorem dX3_addRoom_35 : decode cX3_addRoom 35 = .ok (.invokestatic 85, 3) := by decide +kernel
theorem dX3_addRoom_38 : decode cX3_addRoom 38 = .ok (.ifCond .eq 6, 3) := by decide +kernel
theorem dX3_addRoom_41 : decode cX3_addRoom 41 = .ok (.ldc 91, 2) := by decide +kernel
theorem dX3_addRoom_43 : decode cX3_addRoom 43 = .ok (.ireturn, 1) := by decide +kernel
theorem dX3_addRoom_44 : decode cX3_addRoom 44 = .ok (.aload_n 0, 1) := by decide +kernel
theorem dX3_addRoom_45 : decode cX3_addRoom 45 = .ok (.getfield 23, 3) := by decide +kernel
theorem dX3_addRoom_48 : decode cX3_addRoom 48 = .ok (.aload_n 0, 1) := by decide +kernel
theorem dX3_addRoom_49 : decode cX3_addRoom 49 = .ok (.getfield 57, 3) := by decide +kernel
theorem dX3_addRoom_52 : decode cX3_addRoom 52 = .ok (.iload_n 1, 1) := by decide +kernel
theorem dX3_addRoom_53 : decode cX3_addRoom 53 = .ok (.iastore, 1) := by decide +kernel
theorem dX3_addRoom_54 : decode cX3_addRoom 54 = .ok (.aload_n 0, 1) := by decide +kernel
theorem dX3_addRoom_55 : decode cX3_addRoom 55 = .ok (.dup, 1) := by decide +kernel
theorem dX3_addRoom_56 : decode cX3_addRoom 56 = .ok (.getfield 57, 3) := by decide +kernel
theorem dX3_addRoom_59 : decode cX3_addRoom 59 = .ok (.iconst 1, 1) := by decide +kernel
theorem dX3_addRoom_60 : decode cX3_addRoom 60 = .ok (.iadd, 1) := by decide +kernel
theorem dX3_addRoom_61 : decode cX3_addRoom 61 = .ok (.putfield 57, 3) := by decide +kernel
theorem dX3_addRoom_64 : decode cX3_addRoom 64 = .ok (.aload_n 0, 1) := by decide +kernel
theorem dX3_addRoom_65 : decode cX3_addRoom 65 = .ok (.getfield 57, 3) := by decide +kernel
theorem dX3_addRoom_68 : decode cX3_addRoom 68 = .ok (.iconst 1, 1) := by decide +kernel
theorem dX3_addRoom_69 : decode cX3_addRoom 69 = .ok (.isub, 1) := by decide +kernel
theorem dX3_addRoom_70 : decode cX3_addRoom 70 = .ok (.ireturn, 1) := by decide +kernel
theorem dX3_addPerson_0 : decode cX3_addPerson 0 = .ok (.aload_n 0, 1) := by decide +kernel
theorem dX3_addPerson_1 : decode cX3_addPerson 1 = .ok (.iload_n 1, 1) := by decide +kernel
theorem dX3_addPerson_2 : decode cX3_addPerson 2 = .ok (.iload_n 2, 1) := by decide +kernel
theorem dX3_addPerson_3 : decode cX3_addPerson 3 = .ok (.iload_n 3, 1) := by decide +kernel
theorem dX3_addPerson_4 : decode cX3_addPerson 4 = .ok (.invokevirtual 97, 3) := by decide +kernel
theorem dX3_addPerson_7 : decode cX3_addPerson 7 = .ok (.ifCond .ne 6, 3) := by decide +kernel
theorem dX3_addPerson_10 : decode cX3_addPerson 10 = .ok (.ldc 89, 2) := by decide +kernel
theorem dX3_addPerson_12 : decode cX3_addPerson 12 = .ok (.ireturn, 1) := by decide +kernel
theorem dX3_addPerson_13 : decode cX3_addPerson 13 = .ok (.aload_n 0, 1) := by decide +kernel
theorem dX3_addPerson_14 : decode cX3_addPerson 14 = .ok (.getfield 63, 3) := by decide +kernel
theorem dX3_addPerson_17 : decode cX3_addPerson 17 = .ok (.ifCond .eq 6, 3) := by decide +kernel
theorem dX3_addPerson_20 : decode cX3_addPerson 20 = .ok (.ldc 90, 2) := by decide +kernel
theorem dX3_addPerson_22 : decode cX3_addPerson 22 = .ok (.ireturn, 1) := by decide +kernel
theorem dX3_addPerson_23 : decode cX3_addPerson 23 = .ok (.aload_n 0, 1) := by decide +kernel
theorem dX3_addPerson_24 : decode cX3_addPerson 24 = .ok (.getfield 54, 3) := by decide +kernel
theorem dX3_addPerson_27 : decode cX3_addPerson 27 = .ok (.iconst 0, 1) := by decide +kernel
theorem dX3_addPerson_28 : decode cX3_addPerson 28 = .ok (.aload_n 0, 1) := by decide +kernel
theorem dX3_addPerson_29 : decode cX3_addPerson 29 = .ok (.getfield 19, 3) := by decide +kernel
theorem dX3_addPerson_32 : decode cX3_addPerson 32 = .ok (.arraylength, 1) := by decide +kernel
theorem dX3_addPerson_33 : decode cX3_addPerson 33 = .ok (.iconst 1, 1) := by decide +kernel
theorem dX3_addPerson_34 : decode cX3_addPerson 34 = .ok (.isub, 1) := by decide +kernel
theorem dX3_addPerson_35 : decode cX3_addPerson 35 = .ok (.invokestatic 85, 3) := by decide +kernel
theorem dX3_addPerson_38 : decode cX3_addPerson 38 = .ok (.ifCond .eq 7, 3) := by decide +kernel
theorem dX3_addPerson_41 : decode cX3_addPerson 41 = .ok (.aconst_null, 1) := by decide +kernel
theorem dX3_addPerson_42 : decode cX3_addPerson 42 = .ok (.goto 12, 3) := by decide +kernel
theorem dX3_addPerson_45 : decode cX3_addPerson 45 = .ok (.aload_n 0, 1) := by decide +kernel
theorem dX3_addPerson_46 : decode cX3_addPerson 46 = .ok (.getfield 19, 3) := by decide +kernel
theorem dX3_addPerson_49 : decode cX3_addPerson 49 = .ok (.aload_n 0, 1) := by decide +kernel
theorem dX3_addPerson_50 : decode cX3_addPerson 50 = .ok (.getfield 54, 3) := by decide +kernel
theorem dX3_addPerson_53 : decode cX3_addPerson 53 = .ok (.aaload, 1) := by decide +kernel
theorem dX3_addPerson_54 : decode cX3_addPerson 54 = .ok (.astore 4, 2) := by decide +kernel
theorem dX3_addPerson_56 : decode cX3_addPerson 56 = .ok (.aload 4, 2) := by decide +kernel
theorem dX3_addPerson_58 : decode cX3_addPerson 58 = .ok (.ifnonnull 6, 3) := by decide +kernel
theorem dX3_addPerson_61 : decode cX3_addPerson 61 = .ok (.ldc 91, 2) := by decide +kernel
theorem dX3_addPerson_63 : decode cX3_addPerson 63 = .ok (.ireturn, 1) := by decide +kernel
theorem dX3_addPerson_64 : decode cX3_addPerson 64 = .ok (.aload 4, 2) := by decide +kernel
theorem dX3_addPerson_66 : decode cX3_addPerson 66 = .ok (.iload_n 1, 1) := by decide +kernel
theorem dX3_addPerson_67 : decode cX3_addPerson 67 = .ok (.iload_n 2, 1) := by decide +kernel
theorem dX3_addPerson_68 : decode cX3_addPerson 68 = .ok (.iload_n 3, 1) := by decide +kernel
theorem dX3_addPerson_69 : decode cX3_addPerson 69 = .ok (.invokevirtual 100, 3) := by decide +kernel
theorem dX3_addPerson_72 : decode cX3_addPerson 72 = .ok (.aload 4, 2) := by decide +kernel
theorem dX3_addPerson_74 : decode cX3_addPerson 74 = .ok (.iconst 1, 1) := by decide +kernel
theorem dX3_addPerson_75 : decode cX3_addPerson 75 = .ok (.putfield 104, 3) := by decide +kernel
theorem dX3_addPerson_78 : decode cX3_addPerson 78 = .ok (.aload_n 0, 1) := by decide +kernel
theorem dX3_addPerson_79 : decode cX3_addPerson 79 = .ok (.dup, 1) := by decide +kernel
theorem dX3_addPerson_80 : decode cX3_addPerson 80 = .ok (.getfield 54, 3) := by decide +kernel
theorem dX3_addPerson_83 : decode cX3_addPerson 83 = .ok (.iconst 1, 1) := by decide +kernel
theorem dX3_addPerson_84 : decode cX3_addPerson 84 = .ok (.iadd, 1) := by decide +kernel
theorem dX3_addPerson_85 : decode cX3_addPerson 85 = .ok (.putfield 54, 3) := by decide +kernel
theorem dX3_addPerson_88 : decode cX3_addPerson 88 = .ok (.aload_n 0, 1) := by decide +kernel
theorem dX3_addPerson_89 : decode cX3_addPerson 89 = .ok (.invokevirtual 107, 3) := by decide +kernel
theorem dX3_addPerson_92 : decode cX3_addPerson 92 = .ok (.aload 4, 2) := by decide +kernel
theorem dX3_addPerson_94 : decode cX3_addPerson 94 = .ok (.getfield 110, 3) := by decide +kernel
theorem dX3_addPerson_97 : decode cX3_addPerson 97 = .ok (.ireturn, 1) := by decide +kernel
theorem dX3_changeWishes_0 : decode cX3_changeWishes 0 = .ok (.aload_n 0, 1) := by decide +kernel
theorem dX3_changeWishes_1 : decode cX3_changeWishes 1 = .ok (.iload_n 1, 1) := by decide +kernel
theorem dX3_changeWishes_2 : decode cX3_changeWishes 2 = .ok (.invokevirtual 111, 3) := by decide +kernel
theorem dX3_changeWishes_5 : decode cX3_changeWishes 5 = .ok (.astore 5, 2) := by decide +kernel
theorem dX3_changeWishes_7 : decode cX3_changeWishes 7 = .ok (.aload 5, 2) := by decide +kernel
theorem dX3_changeWishes_9 : decode cX3_changeWishes 9 = .ok (.ifnull 14, 3) := by decide +kernel
theorem dX3_changeWishes_12 : decode cX3_changeWishes 12 = .ok (.aload_n 0, 1) := by decide +kernel
theorem dX3_changeWishes_13 : decode cX3_changeWishes 13 = .ok (.iload_n 2, 1) := by decide +kernel
theorem dX3_changeWishes_14 : decode cX3_changeWishes 14 = .ok (.iload_n 3, 1) := by decide +kernel
theorem dX3_changeWishes_15 : decode cX3_changeWishes 15 = .ok (.iload 4, 2) := by decide +kernel
theorem dX3_changeWishes_17 : decode cX3_changeWishes 17 = .ok (.invokevirtual 97, 3) := by decide +kernel
theorem dX3_changeWishes_20 : decode cX3_changeWishes 20 = .ok (.ifCond .ne 6, 3) := by decide +kernel
theorem dX3_changeWishes_23 : decode cX3_changeWishes 23 = .ok (.ldc 89, 2) := by decide +kernel
theorem dX3_changeWishes_25 : decode cX3_changeWishes 25 = .ok (.ireturn, 1) := by decide +kernel
theorem dX3_changeWishes_26 : decode cX3_changeWishes 26 = .ok (.aload_n 0, 1) := by decide +kernel
theorem dX3_changeWishes_27 : decode cX3_changeWishes 27 = .ok (.getfield 63, 3) := by decide +kernel
theorem dX3_changeWishes_30 : decode cX3_changeWishes 30 = .ok (.ifCond .ne 11, 3) := by decide +kernel
theorem dX3_changeWishes_33 : decode cX3_changeWishes 33 = .ok (.aload 5, 2) := by decide +kernel
theorem dX3_changeWishes_35 : decode cX3_changeWishes 35 = .ok (.getfield 104, 3) := by decide +kernel
theorem dX3_changeWishes_38 : decode cX3_changeWishes 38 = .ok (.ifCond .ne 6, 3) := by decide +kernel
theorem dX3_changeWishes_41 : decode cX3_changeWishes 41 = .ok (.ldc 90, 2) := by decide +kernel
theorem dX3_changeWishes_43 : decode cX3_changeWishes 43 = .ok (.ireturn, 1) := by decide +kernel
theorem dX3_changeWishes_44 : decode cX3_changeWishes 44 = .ok (.aload 5, 2) := by decide +kernel
theorem dX3_changeWishes_46 : decode cX3_changeWishes 46 = .ok (.iload_n 2, 1) := by decide +kernel
theorem dX3_changeWishes_47 : decode cX3_changeWishes 47 = .ok (.iload_n 3, 1) := by decide +kernel
theorem dX3_changeWishes_48 : decode cX3_changeWishes 48 = .ok (.iload 4, 2) := by decide +kernel
theorem dX3_changeWishes_50 : decode cX3_changeWishes 50 = .ok (.invokevirtual 100, 3) := by decide +kernel
theorem dX3_changeWishes_53 : decode cX3_changeWishes 53 = .ok (.aload_n 0, 1) := by decide +kernel
theorem dX3_changeWishes_54 : decode cX3_changeWishes 54 = .ok (.invokevirtual 107, 3) := by decide +kernel
theorem dX3_changeWishes_57 : decode cX3_changeWishes 57 = .ok (.aload 5, 2) := by decide +kernel
theorem dX3_changeWishes_59 : decode cX3_changeWishes 59 = .ok (.invokevirtual 115, 3) := by decide +kernel
theorem dX3_changeWishes_62 : decode cX3_changeWishes 62 = .ok (.ireturn, 1) := by decide +kernel
theorem dX3_sendAway_0 : decode cX3_sendAway 0 = .ok (.aload_n 0, 1) := by decide +kernel
theorem dX3_sendAway_1 : decode cX3_sendAway 1 = .ok (.iload_n 1, 1) := by decide +kernel
theorem dX3_sendAway_2 : decode cX3_sendAway 2 = .ok (.invokevirtual 111, 3) := by decide +kernel
theorem dX3_sendAway_5 : decode cX3_sendAway 5 = .ok (.astore_n 2, 1) := by decide +kernel
theorem dX3_sendAway_6 : decode cX3_sendAway 6 = .ok (.aload_n 2, 1) := by decide +kernel
theorem dX3_sendAway_7 : decode cX3_sendAway 7 = .ok (.ifnonnull 6, 3) := by decide +kernel
theorem dX3_sendAway_10 : decode cX3_sendAway 10 = .ok (.ldc 89, 2) := by decide +kernel
theorem dX3_sendAway_12 : decode cX3_sendAway 12 = .ok (.ireturn, 1) := by decide +kernel
theorem dX3_sendAway_13 : decode cX3_sendAway 13 = .ok (.aload_n 0, 1) := by decide +kernel
theorem dX3_sendAway_14 : decode cX3_sendAway 14 = .ok (.getfield 63, 3) := by decide +kernel
theorem dX3_sendAway_17 : decode cX3_sendAway 17 = .ok (.ifCond .ne 10, 3) := by decide +kernel
theorem dX3_sendAway_20 : decode cX3_sendAway 20 = .ok (.aload_n 2, 1) := by decide +kernel
theorem dX3_sendAway_21 : decode cX3_sendAway 21 = .ok (.getfield 104, 3) := by decide +kernel
theorem dX3_sendAway_24 : decode cX3_sendAway 24 = .ok (.ifCond .ne 6, 3) := by decide +kernel
theorem dX3_sendAway_27 : decode cX3_sendAway 27 = .ok (.ldc 90, 2) := by decide +kernel
theorem dX3_sendAway_29 : decode cX3_sendAway 29 = .ok (.ireturn, 1) := by decide +kernel
theorem dX3_sendAway_30 : decode cX3_sendAway 30 = .ok (.aload_n 2, 1) := by decide +kernel
theorem dX3_sendAway_31 : decode cX3_sendAway 31 = .ok (.getfield 119, 3) := by decide +kernel
theorem dX3_sendAway_34 : decode cX3_sendAway 34 = .ok (.istore_n 3, 1) := by decide +kernel
theorem dX3_sendAway_35 : decode cX3_sendAway 35 = .ok (.aload_n 2, 1) := by decide +kernel
theorem dX3_sendAway_36 : decode cX3_sendAway 36 = .ok (.iconst 0, 1) := by decide +kernel
theorem dX3_sendAway_37 : decode cX3_sendAway 37 = .ok (.putfield 104, 3) := by decide +kernel
theorem dX3_sendAway_40 : decode cX3_sendAway 40 = .ok (.aload_n 0, 1) := by decide +kernel
theorem dX3_sendAway_41 : decode cX3_sendAway 41 = .ok (.aload_n 2, 1) := by decide +kernel
theorem dX3_sendAway_42 : decode cX3_sendAway 42 = .ok (.invokevirtual 120, 3) := by decide +kernel
theorem dX3_sendAway_45 : decode cX3_sendAway 45 = .ok (.aload_n 0, 1) := by decide +kernel
theorem dX3_sendAway_46 : decode cX3_sendAway 46 = .ok (.invokevirtual 107, 3) := by decide +kernel
theorem dX3_sendAway_49 : decode cX3_sendAway 49 = .ok (.iload_n 3, 1) := by decide +kernel
theorem dX3_sendAway_50 : decode cX3_sendAway 50 = .ok (.ireturn, 1) := by decide +kernel
theorem dX3_areWishes_0 : decode cX3_areWishes 0 = .ok (.aload_n 0, 1) := by decide +kernel
theorem dX3_areWishes_1 : decode cX3_areWishes 1 = .ok (.iload_n 1, 1) := by decide +kernel
theorem dX3_areWishes_2 : decode cX3_areWishes 2 = .ok (.invokevirtual 123, 3) := by decide +kernel
theorem dX3_areWishes_5 : decode cX3_areWishes 5 = .ok (.ifnonnull 5, 3) := by decide +kernel
theorem dX3_areWishes_8 : decode cX3_areWishes 8 = .ok (.iconst 0, 1) := by decide +kernel
theorem dX3_areWishes_9 : decode cX3_areWishes 9 = .ok (.ireturn, 1) := by decide +kernel
theorem dX3_areWishes_10 : decode cX3_areWishes 10 = .ok (.iload_n 2, 1) := by decide +kernel
theorem dX3_areWishes_11 : decode cX3_areWishes 11 = .ok (.iconst (-1), 1) := by decide +kernel
theorem dX3_areWishes_12 : decode cX3_areWishes 12 = .ok (.if_icmp .ne 14, 3) := by decide +kernel
theorem dX3_areWishes_15 : decode cX3_areWishes 15 = .ok (.iload_n 3, 1) := by decide +kernel
theorem dX3_areWishes_16 : decode cX3_areWishes 16 = .ok (.iconst (-1), 1) := by decide +kernel
theorem dX3_areWishes_17 : decode cX3_areWishes 17 = .ok (.if_icmp .ne 7, 3) := by decide +kernel
theorem dX3_areWishes_20 : decode cX3_areWishes 20 = .ok (.iconst 1, 1) := by decide +kernel
theorem dX3_areWishes_21 : decode cX3_areWishes 21 = .ok (.goto 4, 3) := by decide +kernel
theorem dX3_areWishes_24 : decode cX3_areWishes 24 = .ok (.iconst 0, 1) := by decide +kernel
theorem dX3_areWishes_25 : decode cX3_areWishes 25 = .ok (.ireturn, 1) := by decide +kernel
theorem dX3_areWishes_26 : decode cX3_areWishes 26 = .ok (.aload_n 0, 1) := by decide +kernel
theorem dX3_areWishes_27 : decode cX3_areWishes 27 = .ok (.iload_n 2, 1) := by decide +kernel
theorem dX3_areWishes_28 : decode cX3_areWishes 28 = .ok (.invokevirtual 123, 3) := by decide +kernel
theorem dX3_areWishes_31 : decode cX3_areWishes 31 = .ok (.ifnull 8, 3) := by decide +kernel
theorem dX3_areWishes_34 : decode cX3_areWishes 34 = .ok (.iload_n 2, 1) := by decide +kernel
theorem dX3_areWishes_35 : decode cX3_areWishes 35 = .ok (.iload_n 1, 1) := by decide +kernel
theorem dX3_areWishes_36 : decode cX3_areWishes 36 = .ok (.if_icmp .ne 5, 3) := by decide +kernel
theorem dX3_areWishes_39 : decode cX3_areWishes 39 = .ok (.iconst 0, 1) := by decide +kernel
theorem dX3_areWishes_40 : decode cX3_areWishes 40 = .ok (.ireturn, 1) := by decide +kernel
theorem dX3_areWishes_41 : decode cX3_areWishes 41 = .ok (.iload_n 3, 1) := by decide +kernel
theorem dX3_areWishes_42 : decode cX3_areWishes 42 = .ok (.iconst (-1), 1) := by decide +kernel
theorem dX3_areWishes_43 : decode cX3_areWishes 43 = .ok (.if_icmp .eq 21, 3) := by decide +kernel
theorem dX3_areWishes_46 : decode cX3_areWishes 46 = .ok (.aload_n 0, 1) := by decide +kernel
theorem dX3_areWishes_47 : decode cX3_areWishes 47 = .ok (.iload_n 3, 1) := by decide +kernel
theorem dX3_areWishes_48 : decode cX3_areWishes 48 = .ok (.invokevirtual 123, 3) := by decide +kernel
theorem dX3_areWishes_51 : decode cX3_areWishes 51 = .ok (.ifnull 17, 3) := by decide +kernel
theorem dX3_areWishes_54 : decode cX3_areWishes 54 = .ok (.iload_n 3, 1) := by decide +kernel
theorem dX3_areWishes_55 : decode cX3_areWishes 55 = .ok (.iload_n 1, 1) := by decide +kernel
theorem dX3_areWishes_56 : decode cX3_areWishes 56 = .ok (.if_icmp .eq 12, 3) := by decide +kernel
theorem dX3_areWishes_59 : decode cX3_areWishes 59 = .ok (.iload_n 3, 1) := by decide +kernel
theorem dX3_areWishes_60 : decode cX3_areWishes 60 = .ok (.iload_n 2, 1) := by decide +kernel
theorem dX3_areWishes_61 : decode cX3_areWishes 61 = .ok (.if_icmp .eq 7, 3) := by decide +kernel
theorem dX3_areWishes_64 : decode cX3_areWishes 64 = .ok (.iconst 1, 1) := by decide +kernel
theorem dX3_areWishes_65 : decode cX3_areWishes 65 = .ok (.goto 4, 3) := by decide +kernel
theorem dX3_areWishes_68 : decode cX3_areWishes 68 = .ok (.iconst 0, 1) := by decide +kernel
theorem dX3_areWishes_69 : decode cX3_areWishes 69 = .ok (.ireturn, 1) := by decide +kernel
theorem dX3_closeTerm_0 : decode cX3_closeTerm 0 = .ok (.aload_n 0, 1) := by decide +kernel
theorem dX3_closeTerm_1 : decode cX3_closeTerm 1 = .ok (.getfield 63, 3) := by decide +kernel
theorem dX3_closeTerm_4 : decode cX3_closeTerm 4 = .ok (.ifCond .eq 6, 3) := by decide +kernel
theorem dX3_closeTerm_7 : decode cX3_closeTerm 7 = .ok (.ldc 90, 2) := by decide +kernel
theorem dX3_closeTerm_9 : decode cX3_closeTerm 9 = .ok (.ireturn, 1) := by decide +kernel
theorem dX3_closeTerm_10 : decode cX3_closeTerm 10 = .ok (.iconst 0, 1) := by decide +kernel
theorem dX3_closeTerm_11 : decode cX3_closeTerm 11 = .ok (.istore_n 1, 1) := by decide +kernel
theorem dX3_closeTerm_12 : decode cX3_closeTerm 12 = .ok (.iload_n 1, 1) := by decide +kernel
theorem dX3_closeTerm_13 : decode cX3_closeTerm 13 = .ok (.aload_n 0, 1) := by decide +kernel
theorem dX3_closeTerm_14 : decode cX3_closeTerm 14 = .ok (.getfield 11, 3) := by decide +kernel
theorem dX3_closeTerm_17 : decode cX3_closeTerm 17 = .ok (.arraylength, 1) := by decide +kernel
theorem dX3_closeTerm_18 : decode cX3_closeTerm 18 = .ok (.if_icmp .ge 50, 3) := by decide +kernel
theorem dX3_closeTerm_21 : decode cX3_closeTerm 21 = .ok (.aload_n 0, 1) := by decide +kernel
theorem dX3_closeTerm_22 : decode cX3_closeTerm 22 = .ok (.invokevirtual 127, 3) := by decide +kernel
theorem dX3_closeTerm_25 : decode cX3_closeTerm 25 = .ok (.astore_n 2, 1) := by decide +kernel
theorem dX3_closeTerm_26 : decode cX3_closeTerm 26 = .ok (.aload_n 2, 1) := by decide +kernel
theorem dX3_closeTerm_27 : decode cX3_closeTerm 27 = .ok (.ifnonnull 6, 3) := by decide +kernel
theorem dX3_closeTerm_30 : decode cX3_closeTerm 30 = .ok (.goto 38, 3) := by decide +kernel
theorem dX3_closeTerm_33 : decode cX3_closeTerm 33 = .ok (.aload_n 0, 1) := by decide +kernel
theorem dX3_closeTerm_34 : decode cX3_closeTerm 34 = .ok (.aload_n 2, 1) := by decide +kernel
theorem dX3_closeTerm_35 : decode cX3_closeTerm 35 = .ok (.invokevirtual 131, 3) := by decide +kernel
theorem dX3_closeTerm_38 : decode cX3_closeTerm 38 = .ok (.astore_n 3, 1) := by decide +kernel
theorem dX3_closeTerm_39 : decode cX3_closeTerm 39 = .ok (.aload_n 3, 1) := by decide +kernel
theorem dX3_closeTerm_40 : decode cX3_closeTerm 40 = .ok (.ifnonnull 12, 3) := by decide +kernel
theorem dX3_closeTerm_43 : decode cX3_closeTerm 43 = .ok (.aload_n 0, 1) := by decide +kernel
theorem dX3_closeTerm_44 : decode cX3_closeTerm 44 = .ok (.aload_n 2, 1) := by decide +kernel
theorem dX3_closeTerm_45 : decode cX3_closeTerm 45 = .ok (.iconst 2, 1) := by decide +kernel
theorem dX3_closeTerm_46 : decode cX3_closeTerm 46 = .ok (.invokevirtual 135, 3) := by decide +kernel
theorem dX3_closeTerm_49 : decode cX3_closeTerm 49 = .ok (.goto 9, 3) := by decide +kernel
theorem dX3_closeTerm_52 : decode cX3_closeTerm 52 = .ok (.aload_n 0, 1) := by decide +kernel
theorem dX3_closeTerm_53 : decode cX3_closeTerm 53 = .ok (.aload_n 2, 1) := by decide +kernel
theorem dX3_closeTerm_54 : decode cX3_closeTerm 54 = .ok (.aload_n 3, 1) := by decide +kernel
theorem dX3_closeTerm_55 : decode cX3_closeTerm 55 = .ok (.invokevirtual 139, 3) := by decide +kernel
theorem dX3_closeTerm_58 : decode cX3_closeTerm 58 = .ok (.aload_n 0, 1) := by decide +kernel
theorem dX3_closeTerm_59 : decode cX3_closeTerm 59 = .ok (.invokevirtual 107, 3) := by decide +kernel
theorem dX3_closeTerm_62 : decode cX3_closeTerm 62 = .ok (.iinc 1 1, 3) := by decide +kernel
theorem dX3_closeTerm_65 : decode cX3_closeTerm 65 = .ok (.goto (-53), 3) := by decide +kernel
theorem dX3_closeTerm_68 : decode cX3_closeTerm 68 = .ok (.iconst 0, 1) := by decide +kernel
theorem dX3_closeTerm_69 : decode cX3_closeTerm 69 = .ok (.istore_n 1, 1) := by decide +kernel
theorem dX3_closeTerm_70 : decode cX3_closeTerm 70 = .ok (.iload_n 1, 1) := by decide +kernel
theorem dX3_closeTerm_71 : decode cX3_closeTerm 71 = .ok (.aload_n 0, 1) := by decide +kernel
theorem dX3_closeTerm_72 : decode cX3_closeTerm 72 = .ok (.getfield 11, 3) := by decide +kernel
theorem dX3_closeTerm_75 : decode cX3_closeTerm 75 = .ok (.arraylength, 1) := by decide +kernel
theorem dX3_closeTerm_76 : decode cX3_closeTerm 76 = .ok (.if_icmp .ge 35, 3) := by decide +kernel
theorem dX3_closeTerm_79 : decode cX3_closeTerm 79 = .ok (.aload_n 0, 1) := by decide +kernel
theorem dX3_closeTerm_80 : decode cX3_closeTerm 80 = .ok (.invokevirtual 143, 3) := by decide +kernel
theorem dX3_closeTerm_83 : decode cX3_closeTerm 83 = .ok (.astore_n 2, 1) := by decide +kernel
theorem dX3_closeTerm_84 : decode cX3_closeTerm 84 = .ok (.aload_n 2, 1) := by decide +kernel
theorem dX3_closeTerm_85 : decode cX3_closeTerm 85 = .ok (.ifnonnull 6, 3) := by decide +kernel
theorem dX3_closeTerm_88 : decode cX3_closeTerm 88 = .ok (.goto 23, 3) := by decide +kernel
theorem dX3_closeTerm_91 : decode cX3_closeTerm 91 = .ok (.aload_n 0, 1) := by decide +kernel
theorem dX3_closeTerm_92 : decode cX3_closeTerm 92 = .ok (.aload_n 2, 1) := by decide +kernel
theorem dX3_closeTerm_93 : decode cX3_closeTerm 93 = .ok (.invokevirtual 146, 3) := by decide +kernel
theorem dX3_closeTerm_96 : decode cX3_closeTerm 96 = .ok (.ifCond .ne 9, 3) := by decide +kernel
theorem dX3_closeTerm_99 : decode cX3_closeTerm 99 = .ok (.aload_n 0, 1) := by decide +kernel
theorem dX3_closeTerm_100 : decode cX3_closeTerm 100 = .ok (.aload_n 2, 1) := by decide +kernel
theorem dX3_closeTerm_101 : decode cX3_closeTerm 101 = .ok (.iconst 3, 1) := by decide +kernel
theorem dX3_closeTerm_102 : decode cX3_closeTerm 102 = .ok (.invokevirtual 135, 3) := by decide +kernel
theorem dX3_closeTerm_105 : decode cX3_closeTerm 105 = .ok (.iinc 1 1, 3) := by decide +kernel
theorem dX3_closeTerm_108 : decode cX3_closeTerm 108 = .ok (.goto (-38), 3) := by decide +kernel
theorem dX3_closeTerm_111 : decode cX3_closeTerm 111 = .ok (.aload_n 0, 1) := by decide +kernel
theorem dX3_closeTerm_112 : decode cX3_closeTerm 112 = .ok (.iconst 1, 1) := by decide +kernel
theorem dX3_closeTerm_113 : decode cX3_closeTerm 113 = .ok (.putfield 63, 3) := by decide +kernel
theorem dX3_closeTerm_116 : decode cX3_closeTerm 116 = .ok (.aload_n 0, 1) := by decide +kernel
theorem dX3_closeTerm_117 : decode cX3_closeTerm 117 = .ok (.iconst 1, 1) := by decide +kernel
theorem dX3_closeTerm_118 : decode cX3_closeTerm 118 = .ok (.invokevirtual 150, 3) := by decide +kernel
theorem dX3_closeTerm_121 : decode cX3_closeTerm 121 = .ok (.invokestatic 154, 3) := by decide +kernel
theorem dX3_closeTerm_124 : decode cX3_closeTerm 124 = .ok (.ireturn, 1) := by decide +kernel
theorem dX3_beginNextTerm_0 : decode cX3_beginNextTerm 0 = .ok (.aload_n 0, 1) := by decide +kernel
theorem dX3_beginNextTerm_1 : decode cX3_beginNextTerm 1 = .ok (.getfield 63, 3) := by decide +kernel
theorem dX3_beginNextTerm_4 : decode cX3_beginNextTerm 4 = .ok (.ifCond .ne 6, 3) := by decide +kernel
theorem dX3_beginNextTerm_7 : decode cX3_beginNextTerm 7 = .ok (.ldc 90, 2) := by decide +kernel
theorem dX3_beginNextTerm_9 : decode cX3_beginNextTerm 9 = .ok (.ireturn, 1) := by decide +kernel
theorem dX3_beginNextTerm_10 : decode cX3_beginNextTerm 10 = .ok (.aload_n 0, 1) := by decide +kernel
theorem dX3_beginNextTerm_11 : decode cX3_beginNextTerm 11 = .ok (.dup, 1) := by decide +kernel
theorem dX3_beginNextTerm_12 : decode cX3_beginNextTerm 12 = .ok (.getfield 73, 3) := by decide +kernel
theorem dX3_beginNextTerm_15 : decode cX3_beginNextTerm 15 = .ok (.aload_n 0, 1) := by decide +kernel
theorem dX3_beginNextTerm_16 : decode cX3_beginNextTerm 16 = .ok (.invokevirtual 159, 3) := by decide +kernel
theorem dX3_beginNextTerm_19 : decode cX3_beginNextTerm 19 = .ok (.iadd, 1) := by decide +kernel
theorem dX3_beginNextTerm_20 : decode cX3_beginNextTerm 20 = .ok (.putfield 73, 3) := by decide +kernel
theorem dX3_beginNextTerm_23 : decode cX3_beginNextTerm 23 = .ok (.aload_n 0, 1) := by decide +kernel
theorem dX3_beginNextTerm_24 : decode cX3_beginNextTerm 24 = .ok (.getfield 11, 3) := by decide +kernel
theorem dX3_beginNextTerm_27 : decode cX3_beginNextTerm 27 = .ok (.astore_n 1, 1) := by decide +kernel
theorem dX3_beginNextTerm_28 : decode cX3_beginNextTerm 28 = .ok (.aload_n 1, 1) := by decide +kernel
theorem dX3_beginNextTerm_29 : decode cX3_beginNextTerm 29 = .ok (.arraylength, 1) := by decide +kernel
theorem dX3_beginNextTerm_30 : decode cX3_beginNextTerm 30 = .ok (.istore_n 2, 1) := by decide +kernel
theorem dX3_beginNextTerm_31 : decode cX3_beginNextTerm 31 = .ok (.iconst 0, 1) := by decide +kernel
theorem dX3_beginNextTerm_32 : decode cX3_beginNextTerm 32 = .ok (.istore_n 3, 1) := by decide +kernel
theorem dX3_beginNextTerm_33 : decode cX3_beginNextTerm 33 = .ok (.iload_n 3, 1) := by decide +kernel
theorem dX3_beginNextTerm_34 : decode cX3_beginNextTerm 34 = .ok (.iload_n 2, 1) := by decide +kernel
theorem dX3_beginNextTerm_35 : decode cX3_beginNextTerm 35 = .ok (.if_icmp .ge 33, 3) := by decide +kernel
theorem dX3_beginNextTerm_38 : decode cX3_beginNextTerm 38 = .ok (.aload_n 1, 1) := by decide +kernel
theorem dX3_beginNextTerm_39 : decode cX3_beginNextTerm 39 = .ok (.iload_n 3, 1) := by decide +kernel
theorem dX3_beginNextTerm_40 : decode cX3_beginNextTerm 40 = .ok (.aaload, 1) := by decide +kernel
theorem dX3_beginNextTerm_41 : decode cX3_beginNextTerm 41 = .ok (.astore 4, 2) := by decide +kernel
theorem dX3_beginNextTerm_43 : decode cX3_beginNextTerm 43 = .ok (.aload 4, 2) := by decide +kernel
theorem dX3_beginNextTerm_45 : decode cX3_beginNextTerm 45 = .ok (.ifnull 17, 3) := by decide +kernel
theorem dX3_beginNextTerm_48 : decode cX3_beginNextTerm 48 = .ok (.aload 4, 2) := by decide +kernel
theorem dX3_beginNextTerm_50 : decode cX3_beginNextTerm 50 = .ok (.getfield 162, 3) := by decide +kernel
theorem dX3_beginNextTerm_53 : decode cX3_beginNextTerm 53 = .ok (.iconst (-1), 1) := by decide +kernel
theorem dX3_beginNextTerm_54 : decode cX3_beginNextTerm 54 = .ok (.if_icmp .eq 8, 3) := by decide +kernel
theorem dX3_beginNextTerm_57 : decode cX3_beginNextTerm 57 = .ok (.aload 4, 2) := by decide +kernel
theorem dX3_beginNextTerm_59 : decode cX3_beginNextTerm 59 = .ok (.invokevirtual 165, 3) := by decide +kernel
theorem dX3_beginNextTerm_62 : decode cX3_beginNextTerm 62 = .ok (.iinc 3 1, 3) := by decide +kernel
theorem dX3_beginNextTerm_65 : decode cX3_beginNextTerm 65 = .ok (.goto (-32), 3) := by decide +kernel
theorem dX3_beginNextTerm_68 : decode cX3_beginNextTerm 68 = .ok (.aload_n 0, 1) := by decide +kernel
theorem dX3_beginNextTerm_69 : decode cX3_beginNextTerm 69 = .ok (.getfield 19, 3) := by decide +kernel
theorem dX3_beginNextTerm_72 : decode cX3_beginNextTerm 72 = .ok (.astore_n 1, 1) := by decide +kernel
theorem dX3_beginNextTerm_73 : decode cX3_beginNextTerm 73 = .ok (.aload_n 1, 1) := by decide +kernel
theorem dX3_beginNextTerm_74 : decode cX3_beginNextTerm 74 = .ok (.arraylength, 1) := by decide +kernel
theorem dX3_beginNextTerm_75 : decode cX3_beginNextTerm 75 = .ok (.istore_n 2, 1) := by decide +kernel
theorem dX3_beginNextTerm_76 : decode cX3_beginNextTerm 76 = .ok (.iconst 0, 1) := by decide +kernel
theorem dX3_beginNextTerm_77 : decode cX3_beginNextTerm 77 = .ok (.istore_n 3, 1) := by decide +kernel
theorem dX3_beginNextTerm_78 : decode cX3_beginNextTerm 78 = .ok (.iload_n 3, 1) := by decide +kernel
theorem dX3_beginNextTerm_79 : decode cX3_beginNextTerm 79 = .ok (.iload_n 2, 1) := by decide +kernel
theorem dX3_beginNextTerm_80 : decode cX3_beginNextTerm 80 = .ok (.if_icmp .ge 24, 3) := by decide +kernel
theorem dX3_beginNextTerm_83 : decode cX3_beginNextTerm 83 = .ok (.aload_n 1, 1) := by decide +kernel
theorem dX3_beginNextTerm_84 : decode cX3_beginNextTerm 84 = .ok (.iload_n 3, 1) := by decide +kernel
theorem dX3_beginNextTerm_85 : decode cX3_beginNextTerm 85 = .ok (.aaload, 1) := by decide +kernel
theorem dX3_beginNextTerm_86 : decode cX3_beginNextTerm 86 = .ok (.astore 4, 2) := by decide +kernel
theorem dX3_beginNextTerm_88 : decode cX3_beginNextTerm 88 = .ok (.aload 4, 2) := by decide +kernel
theorem dX3_beginNextTerm_90 : decode cX3_beginNextTerm 90 = .ok (.ifnull 8, 3) := by decide +kernel
theorem dX3_beginNextTerm_93 : decode cX3_beginNextTerm 93 = .ok (.aload 4, 2) := by decide +kernel
theorem dX3_beginNextTerm_95 : decode cX3_beginNextTerm 95 = .ok (.invokevirtual 168, 3) := by decide +kernel
theorem dX3_beginNextTerm_98 : decode cX3_beginNextTerm 98 = .ok (.iinc 3 1, 3) := by decide +kernel
theorem dX3_beginNextTerm_101 : decode cX3_beginNextTerm 101 = .ok (.goto (-23), 3) := by decide +kernel
theorem dX3_beginNextTerm_104 : decode cX3_beginNextTerm 104 = .ok (.aload_n 0, 1) := by decide +kernel
theorem dX3_beginNextTerm_105 : decode cX3_beginNextTerm 105 = .ok (.iconst 0, 1) := by decide +kernel
theorem dX3_beginNextTerm_106 : decode cX3_beginNextTerm 106 = .ok (.putfield 54, 3) := by decide +kernel
theorem dX3_beginNextTerm_109 : decode cX3_beginNextTerm 109 = .ok (.aload_n 0, 1) := by decide +kernel
theorem dX3_beginNextTerm_110 : decode cX3_beginNextTerm 110 = .ok (.iconst 0, 1) := by decide +kernel
theorem dX3_beginNextTerm_111 : decode cX3_beginNextTerm 111 = .ok (.putfield 63, 3) := by decide +kernel
theorem dX3_beginNextTerm_114 : decode cX3_beginNextTerm 114 = .ok (.aload_n 0, 1) := by decide +kernel
theorem dX3_beginNextTerm_115 : decode cX3_beginNextTerm 115 = .ok (.dup, 1) := by decide +kernel
theorem dX3_beginNextTerm_116 : decode cX3_beginNextTerm 116 = .ok (.getfield 60, 3) := by decide +kernel
theorem dX3_beginNextTerm_119 : decode cX3_beginNextTerm 119 = .ok (.iconst 1, 1) := by decide +kernel
theorem dX3_beginNextTerm_120 : decode cX3_beginNextTerm 120 = .ok (.iadd, 1) := by decide +kernel
theorem dX3_beginNextTerm_121 : decode cX3_beginNextTerm 121 = .ok (.putfield 60, 3) := by decide +kernel
theorem dX3_beginNextTerm_124 : decode cX3_beginNextTerm 124 = .ok (.aload_n 0, 1) := by decide +kernel
theorem dX3_beginNextTerm_125 : decode cX3_beginNextTerm 125 = .ok (.getfield 60, 3) := by decide +kernel
theorem dX3_beginNextTerm_128 : decode cX3_beginNextTerm 128 = .ok (.ireturn, 1) := by decide +kernel
theorem dX3_settle_0 : decode cX3_settle 0 = .ok (.iconst 0, 1) := by decide +kernel
theorem dX3_settle_1 : decode cX3_settle 1 = .ok (.istore_n 1, 1) := by decide +kernel
theorem dX3_settle_2 : decode cX3_settle 2 = .ok (.iload_n 1, 1) := by decide +kernel
theorem dX3_settle_3 : decode cX3_settle 3 = .ok (.sipush 1000, 3) := by decide +kernel
theorem dX3_settle_6 : decode cX3_settle 6 = .ok (.if_icmp .ge 76, 3) := by decide +kernel
theorem dX3_settle_9 : decode cX3_settle 9 = .ok (.aconst_null, 1) := by decide +kernel
theorem dX3_settle_10 : decode cX3_settle 10 = .ok (.astore_n 2, 1) := by decide +kernel
theorem dX3_settle_11 : decode cX3_settle 11 = .ok (.aconst_null, 1) := by decide +kernel
theorem dX3_settle_12 : decode cX3_settle 12 = .ok (.astore_n 3, 1) := by decide +kernel
theorem dX3_settle_13 : decode cX3_settle 13 = .ok (.iconst 0, 1) := by decide +kernel
theorem dX3_settle_14 : decode cX3_settle 14 = .ok (.istore 4, 2) := by decide +kernel
theorem dX3_settle_16 : decode cX3_settle 16 = .ok (.iload 4, 2) := by decide +kernel
theorem dX3_settle_18 : decode cX3_settle 18 = .ok (.aload_n 0, 1) := by decide +kernel
theorem dX3_settle_19 : decode cX3_settle 19 = .ok (.getfield 54, 3) := by decide +kernel
theorem dX3_settle_22 : decode cX3_settle 22 = .ok (.if_icmp .ge 34, 3) := by decide +kernel
theorem dX3_settle_25 : decode cX3_settle 25 = .ok (.aload_n 2, 1) := by decide +kernel
theorem dX3_settle_26 : decode cX3_settle 26 = .ok (.ifnonnull 30, 3) := by decide +kernel
theorem dX3_settle_29 : decode cX3_settle 29 = .ok (.aload_n 0, 1) := by decide +kernel
theorem dX3_settle_30 : decode cX3_settle 30 = .ok (.iload 4, 2) := by decide +kernel
theorem dX3_settle_32 : decode cX3_settle 32 = .ok (.invokevirtual 111, 3) := by decide +kernel
theorem dX3_settle_35 : decode cX3_settle 35 = .ok (.astore_n 3, 1) := by decide +kernel
theorem dX3_settle_36 : decode cX3_settle 36 = .ok (.aload_n 3, 1) := by decide +kernel
theorem dX3_settle_37 : decode cX3_settle 37 = .ok (.ifnonnull 7, 3) := by decide +kernel
theorem dX3_settle_40 : decode cX3_settle 40 = .ok (.aconst_null, 1) := by decide +kernel
theorem dX3_settle_41 : decode cX3_settle 41 = .ok (.goto 8, 3) := by decide +kernel
theorem dX3_settle_44 : decode cX3_settle 44 = .ok (.aload_n 0, 1) := by decide +kernel
theorem dX3_settle_45 : decode cX3_settle 45 = .ok (.aload_n 3, 1) := by decide +kernel
theorem dX3_settle_46 : decode cX3_settle 46 = .ok (.invokevirtual 171, 3) := by decide +kernel
theorem dX3_settle_49 : decode cX3_settle 49 = .ok (.astore_n 2, 1) := by decide +kernel
theorem dX3_settle_50 : decode cX3_settle 50 = .ok (.iinc 4 1, 3) := by decide +kernel
theorem dX3_settle_53 : decode cX3_settle 53 = .ok (.goto (-37), 3) := by decide +kernel
theorem dX3_settle_56 : decode cX3_settle 56 = .ok (.aload_n 2, 1) := by decide +kernel
theorem dX3_settle_57 : decode cX3_settle 57 = .ok (.ifnull 7, 3) := by decide +kernel
theorem dX3_settle_60 : decode cX3_settle 60 = .ok (.aload_n 3, 1) := by decide +kernel
theorem dX3_settle_61 : decode cX3_settle 61 = .ok (.ifnonnull 4, 3) := by decide +kernel
theorem dX3_settle_64 : decode cX3_settle 64 = .ok (.return_, 1) := by decide +kernel
theorem dX3_settle_65 : decode cX3_settle 65 = .ok (.aload_n 0, 1) := by decide +kernel
theorem dX3_settle_66 : decode cX3_settle 66 = .ok (.aload_n 3, 1) := by decide +kernel
theorem dX3_settle_67 : decode cX3_settle 67 = .ok (.invokevirtual 120, 3) := by decide +kernel
theorem dX3_settle_70 : decode cX3_settle 70 = .ok (.aload_n 0, 1) := by decide +kernel
theorem dX3_settle_71 : decode cX3_settle 71 = .ok (.aload_n 3, 1) := by decide +kernel
theorem dX3_settle_72 : decode cX3_settle 72 = .ok (.aload_n 2, 1) := by decide +kernel
theorem dX3_settle_73 : decode cX3_settle 73 = .ok (.invokevirtual 175, 3) := by decide +kernel
theorem dX3_settle_76 : decode cX3_settle 76 = .ok (.iinc 1 1, 3) := by decide +kernel
theorem dX3_settle_79 : decode cX3_settle 79 = .ok (.goto (-77), 3) := by decide +kernel
theorem dX3_settle_82 : decode cX3_settle 82 = .ok (.return_, 1) := by decide +kernel
theorem dX3_betterFor_0 : decode cX3_betterFor 0 = .ok (.aload_n 1, 1) := by decide +kernel
theorem dX3_betterFor_1 : decode cX3_betterFor 1 = .ok (.getfield 104, 3) := by decide +kernel
theorem dX3_betterFor_4 : decode cX3_betterFor 4 = .ok (.ifCond .ne 5, 3) := by decide +kernel
theorem dX3_betterFor_7 : decode cX3_betterFor 7 = .ok (.aconst_null, 1) := by decide +kernel
theorem dX3_betterFor_8 : decode cX3_betterFor 8 = .ok (.areturn, 1) := by decide +kernel
theorem dX3_betterFor_9 : decode cX3_betterFor 9 = .ok (.iconst 0, 1) := by decide +kernel
theorem dX3_betterFor_10 : decode cX3_betterFor 10 = .ok (.istore_n 2, 1) := by decide +kernel
theorem dX3_betterFor_11 : decode cX3_betterFor 11 = .ok (.iload_n 2, 1) := by decide +kernel
theorem dX3_betterFor_12 : decode cX3_betterFor 12 = .ok (.iconst 3, 1) := by decide +kernel
theorem dX3_betterFor_13 : decode cX3_betterFor 13 = .ok (.if_icmp .ge 48, 3) := by decide +kernel
theorem dX3_betterFor_16 : decode cX3_betterFor 16 = .ok (.aload_n 1, 1) := by decide +kernel
theorem dX3_betterFor_17 : decode cX3_betterFor 17 = .ok (.iload_n 2, 1) := by decide +kernel
theorem dX3_betterFor_18 : decode cX3_betterFor 18 = .ok (.invokevirtual 179, 3) := by decide +kernel
theorem dX3_betterFor_21 : decode cX3_betterFor 21 = .ok (.istore_n 3, 1) := by decide +kernel
theorem dX3_betterFor_22 : decode cX3_betterFor 22 = .ok (.iload_n 3, 1) := by decide +kernel
theorem dX3_betterFor_23 : decode cX3_betterFor 23 = .ok (.aload_n 1, 1) := by decide +kernel
theorem dX3_betterFor_24 : decode cX3_betterFor 24 = .ok (.getfield 182, 3) := by decide +kernel
theorem dX3_betterFor_27 : decode cX3_betterFor 27 = .ok (.if_icmp .ne 5, 3) := by decide +kernel
theorem dX3_betterFor_30 : decode cX3_betterFor 30 = .ok (.aconst_null, 1) := by decide +kernel
theorem dX3_betterFor_31 : decode cX3_betterFor 31 = .ok (.areturn, 1) := by decide +kernel
theorem dX3_betterFor_32 : decode cX3_betterFor 32 = .ok (.aload_n 0, 1) := by decide +kernel
theorem dX3_betterFor_33 : decode cX3_betterFor 33 = .ok (.iload_n 3, 1) := by decide +kernel
theorem dX3_betterFor_34 : decode cX3_betterFor 34 = .ok (.invokevirtual 123, 3) := by decide +kernel
theorem dX3_betterFor_37 : decode cX3_betterFor 37 = .ok (.astore 4, 2) := by decide +kernel
theorem dX3_betterFor_39 : decode cX3_betterFor 39 = .ok (.aload 4, 2) := by decide +kernel
theorem dX3_betterFor_41 : decode cX3_betterFor 41 = .ok (.ifnull 14, 3) := by decide +kernel
theorem dX3_betterFor_44 : decode cX3_betterFor 44 = .ok (.aload 4, 2) := by decide +kernel
theorem dX3_betterFor_46 : decode cX3_betterFor 46 = .ok (.invokevirtual 185, 3) := by decide +kernel
theorem dX3_betterFor_49 : decode cX3_betterFor 49 = .ok (.ifCond .eq 6, 3) := by decide +kernel
theorem dX3_betterFor_52 : decode cX3_betterFor 52 = .ok (.aload 4, 2) := by decide +kernel
theorem dX3_betterFor_54 : decode cX3_betterFor 54 = .ok (.areturn, 1) := by decide +kernel
theorem dX3_betterFor_55 : decode cX3_betterFor 55 = .ok (.iinc 2 1, 3) := by decide +kernel
theorem dX3_betterFor_58 : decode cX3_betterFor 58 = .ok (.goto (-47), 3) := by decide +kernel
theorem dX3_betterFor_61 : decode cX3_betterFor 61 = .ok (.aconst_null, 1) := by decide +kernel
theorem dX3_betterFor_62 : decode cX3_betterFor 62 = .ok (.areturn, 1) := by decide +kernel
theorem dX3_comeInto_0 : decode cX3_comeInto 0 = .ok (.aload_n 2, 1) := by decide +kernel
theorem dX3_comeInto_1 : decode cX3_comeInto 1 = .ok (.aload_n 1, 1) := by decide +kernel
theorem dX3_comeInto_2 : decode cX3_comeInto 2 = .ok (.getfield 110, 3) := by decide +kernel
theorem dX3_comeInto_5 : decode cX3_comeInto 5 = .ok (.invokevirtual 189, 3) := by decide +kernel
theorem dX3_comeInto_8 : decode cX3_comeInto 8 = .ok (.aload_n 1, 1) := by decide +kernel
theorem dX3_comeInto_9 : decode cX3_comeInto 9 = .ok (.aload_n 2, 1) := by decide +kernel
theorem dX3_comeInto_10 : decode cX3_comeInto 10 = .ok (.getfield 96, 3) := by decide +kernel
theorem dX3_comeInto_13 : decode cX3_comeInto 13 = .ok (.putfield 182, 3) := by decide +kernel
theorem dX3_comeInto_16 : decode cX3_comeInto 16 = .ok (.aload_n 1, 1) := by decide +kernel
theorem dX3_comeInto_17 : decode cX3_comeInto 17 = .ok (.aload_n 2, 1) := by decide +kernel
theorem dX3_comeInto_18 : decode cX3_comeInto 18 = .ok (.getfield 192, 3) := by decide +kernel
theorem dX3_comeInto_21 : decode cX3_comeInto 21 = .ok (.putfield 119, 3) := by decide +kernel
theorem dX3_comeInto_24 : decode cX3_comeInto 24 = .ok (.aload_n 1, 1) := by decide +kernel
theorem dX3_comeInto_25 : decode cX3_comeInto 25 = .ok (.dup, 1) := by decide +kernel
theorem dX3_comeInto_26 : decode cX3_comeInto 26 = .ok (.getfield 195, 3) := by decide +kernel
theorem dX3_comeInto_29 : decode cX3_comeInto 29 = .ok (.iconst 1, 1) := by decide +kernel
theorem dX3_comeInto_30 : decode cX3_comeInto 30 = .ok (.iadd, 1) := by decide +kernel
theorem dX3_comeInto_31 : decode cX3_comeInto 31 = .ok (.putfield 195, 3) := by decide +kernel
theorem dX3_comeInto_34 : decode cX3_comeInto 34 = .ok (.aload_n 0, 1) := by decide +kernel
theorem dX3_comeInto_35 : decode cX3_comeInto 35 = .ok (.dup, 1) := by decide +kernel
theorem dX3_comeInto_36 : decode cX3_comeInto 36 = .ok (.getfield 67, 3) := by decide +kernel
theorem dX3_comeInto_39 : decode cX3_comeInto 39 = .ok (.aload_n 2, 1) := by decide +kernel
theorem dX3_comeInto_40 : decode cX3_comeInto 40 = .ok (.getfield 192, 3) := by decide +kernel
theorem dX3_comeInto_43 : decode cX3_comeInto 43 = .ok (.iadd, 1) := by decide +kernel
theorem dX3_comeInto_44 : decode cX3_comeInto 44 = .ok (.putfield 67, 3) := by decide +kernel
theorem dX3_comeInto_47 : decode cX3_comeInto 47 = .ok (.aload_n 0, 1) := by decide +kernel
theorem dX3_comeInto_48 : decode cX3_comeInto 48 = .ok (.dup, 1) := by decide +kernel
theorem dX3_comeInto_49 : decode cX3_comeInto 49 = .ok (.getfield 76, 3) := by decide +kernel
theorem dX3_comeInto_52 : decode cX3_comeInto 52 = .ok (.iconst 1, 1) := by decide +kernel
theorem dX3_comeInto_53 : decode cX3_comeInto 53 = .ok (.iadd, 1) := by decide +kernel
theorem dX3_comeInto_54 : decode cX3_comeInto 54 = .ok (.putfield 76, 3) := by decide +kernel
theorem dX3_comeInto_57 : decode cX3_comeInto 57 = .ok (.return_, 1) := by decide +kernel
theorem dX3_goOut_0 : decode cX3_goOut 0 = .ok (.aload_n 0, 1) := by decide +kernel
theorem dX3_goOut_1 : decode cX3_goOut 1 = .ok (.aload_n 1, 1) := by decide +kernel
theorem dX3_goOut_2 : decode cX3_goOut 2 = .ok (.getfield 182, 3) := by decide +kernel
theorem dX3_goOut_5 : decode cX3_goOut 5 = .ok (.invokevirtual 123, 3) := by decide +kernel
theorem dX3_goOut_8 : decode cX3_goOut 8 = .ok (.astore_n 2, 1) := by decide +kernel
theorem dX3_goOut_9 : decode cX3_goOut 9 = .ok (.aload_n 2, 1) := by decide +kernel
theorem dX3_goOut_10 : decode cX3_goOut 10 = .ok (.ifnull 11, 3) := by decide +kernel
theorem dX3_goOut_13 : decode cX3_goOut 13 = .ok (.aload_n 2, 1) := by decide +kernel
theorem dX3_goOut_14 : decode cX3_goOut 14 = .ok (.aload_n 1, 1) := by decide +kernel
theorem dX3_goOut_15 : decode cX3_goOut 15 = .ok (.getfield 110, 3) := by decide +kernel
theorem dX3_goOut_18 : decode cX3_goOut 18 = .ok (.invokevirtual 198, 3) := by decide +kernel
theorem dX3_goOut_21 : decode cX3_goOut 21 = .ok (.aload_n 1, 1) := by decide +kernel
theorem dX3_goOut_22 : decode cX3_goOut 22 = .ok (.iconst (-1), 1) := by decide +kernel
theorem dX3_goOut_23 : decode cX3_goOut 23 = .ok (.putfield 182, 3) := by decide +kernel
theorem dX3_goOut_26 : decode cX3_goOut 26 = .ok (.aload_n 0, 1) := by decide +kernel
theorem dX3_goOut_27 : decode cX3_goOut 27 = .ok (.dup, 1) := by decide +kernel
theorem dX3_goOut_28 : decode cX3_goOut 28 = .ok (.getfield 70, 3) := by decide +kernel
theorem dX3_goOut_31 : decode cX3_goOut 31 = .ok (.aload_n 1, 1) := by decide +kernel
theorem dX3_goOut_32 : decode cX3_goOut 32 = .ok (.getfield 119, 3) := by decide +kernel
theorem dX3_goOut_35 : decode cX3_goOut 35 = .ok (.iadd, 1) := by decide +kernel
theorem dX3_goOut_36 : decode cX3_goOut 36 = .ok (.putfield 70, 3) := by decide +kernel
theorem dX3_goOut_39 : decode cX3_goOut 39 = .ok (.aload_n 1, 1) := by decide +kernel
theorem dX3_goOut_40 : decode cX3_goOut 40 = .ok (.iconst 0, 1) := by decide +kernel
theorem dX3_goOut_41 : decode cX3_goOut 41 = .ok (.putfield 119, 3) := by decide +kernel
theorem dX3_goOut_44 : decode cX3_goOut 44 = .ok (.return_, 1) := by decide +kernel
theorem dX3_smallestTooSmall_0 : decode cX3_smallestTooSmall 0 = .ok (.aconst_null, 1) := by decide +kernel
theorem dX3_smallestTooSmall_1 : decode cX3_smallestTooSmall 1 = .ok (.astore_n 1, 1) := by decide +kernel
theorem dX3_smallestTooSmall_2 : decode cX3_smallestTooSmall 2 = .ok (.aload_n 0, 1) := by decide +kernel
theorem dX3_smallestTooSmall_3 : decode cX3_smallestTooSmall 3 = .ok (.getfield 11, 3) := by decide +kernel
theorem dX3_smallestTooSmall_6 : decode cX3_smallestTooSmall 6 = .ok (.astore_n 2, 1) := by decide +kernel
theorem dX3_smallestTooSmall_7 : decode cX3_smallestTooSmall 7 = .ok (.aload_n 2, 1) := by decide +kernel
theorem dX3_smallestTooSmall_8 : decode cX3_smallestTooSmall 8 = .ok (.arraylength, 1) := by decide +kernel
theorem dX3_smallestTooSmall_9 : decode cX3_smallestTooSmall 9 = .ok (.istore_n 3, 1) := by decide +kernel
theorem dX3_smallestTooSmall_10 : decode cX3_smallestTooSmall 10 = .ok (.iconst 0, 1) := by decide +kernel
theorem dX3_smallestTooSmall_11 : decode cX3_smallestTooSmall 11 = .ok (.istore 4, 2) := by decide +kernel
theorem dX3_smallestTooSmall_13 : decode cX3_smallestTooSmall 13 = .ok (.iload 4, 2) := by decide +kernel
theorem dX3_smallestTooSmall_15 : decode cX3_smallestTooSmall 15 = .ok (.iload_n 3, 1) := by decide +kernel
theorem dX3_smallestTooSmall_16 : decode cX3_smallestTooSmall 16 = .ok (.if_icmp .ge 47, 3) := by decide +kernel
theorem dX3_smallestTooSmall_19 : decode cX3_smallestTooSmall 19 = .ok (.aload_n 2, 1) := by decide +kernel
theorem dX3_smallestTooSmall_20 : decode cX3_smallestTooSmall 20 = .ok (.iload 4, 2) := by decide +kernel
theorem dX3_smallestTooSmall_22 : decode cX3_smallestTooSmall 22 = .ok (.aaload, 1) := by decide +kernel
theorem dX3_smallestTooSmall_23 : decode cX3_smallestTooSmall 23 = .ok (.astore 5, 2) := by decide +kernel
theorem dX3_smallestTooSmall_25 : decode cX3_smallestTooSmall 25 = .ok (.aload 5, 2) := by decide +kernel
theorem dX3_smallestTooSmall_27 : decode cX3_smallestTooSmall 27 = .ok (.ifnull 30, 3) := by decide +kernel
theorem dX3_smallestTooSmall_30 : decode cX3_smallestTooSmall 30 = .ok (.aload 5, 2) := by decide +kernel
theorem dX3_smallestTooSmall_32 : decode cX3_smallestTooSmall 32 = .ok (.invokevirtual 201, 3) := by decide +kernel
theorem dX3_smallestTooSmall_35 : decode cX3_smallestTooSmall 35 = .ok (.ifCond .eq 22, 3) := by decide +kernel
theorem dX3_smallestTooSmall_38 : decode cX3_smallestTooSmall 38 = .ok (.aload_n 1, 1) := by decide +kernel
theorem dX3_smallestTooSmall_39 : decode cX3_smallestTooSmall 39 = .ok (.ifnull 15, 3) := by decide +kernel
theorem dX3_smallestTooSmall_42 : decode cX3_smallestTooSmall 42 = .ok (.aload 5, 2) := by decide +kernel
theorem dX3_smallestTooSmall_44 : decode cX3_smallestTooSmall 44 = .ok (.getfield 204, 3) := by decide +kernel
theorem dX3_smallestTooSmall_47 : decode cX3_smallestTooSmall 47 = .ok (.aload_n 1, 1) := by decide +kernel
theorem dX3_smallestTooSmall_48 : decode cX3_smallestTooSmall 48 = .ok (.getfield 204, 3) := by decide +kernel
theorem dX3_smallestTooSmall_51 : decode cX3_smallestTooSmall 51 = .ok (.if_icmp .ge 6, 3) := by decide +kernel
theorem dX3_smallestTooSmall_54 : decode cX3_smallestTooSmall 54 = .ok (.aload 5, 2) := by decide +kernel
theorem dX3_smallestTooSmall_56 : decode cX3_smallestTooSmall 56 = .ok (.astore_n 1, 1) := by decide +kernel
theorem dX3_smallestTooSmall_57 : decode cX3_smallestTooSmall 57 = .ok (.iinc 4 1, 3) := by decide +kernel
theorem dX3_smallestTooSmall_60 : decode cX3_smallestTooSmall 60 = .ok (.goto (-47), 3) := by decide +kernel
theorem dX3_smallestTooSmall_63 : decode cX3_smallestTooSmall 63 = .ok (.aload_n 1, 1) := by decide +kernel
theorem dX3_smallestTooSmall_64 : decode cX3_smallestTooSmall 64 = .ok (.areturn, 1) := by decide +kernel
theorem dX3_mergingOf_0 : decode cX3_mergingOf 0 = .ok (.aconst_null, 1) := by decide +kernel
theorem dX3_mergingOf_1 : decode cX3_mergingOf 1 = .ok (.astore_n 2, 1) := by decide +kernel
theorem dX3_mergingOf_2 : decode cX3_mergingOf 2 = .ok (.aload_n 0, 1) := by decide +kernel
theorem dX3_mergingOf_3 : decode cX3_mergingOf 3 = .ok (.getfield 11, 3) := by decide +kernel
theorem dX3_mergingOf_6 : decode cX3_mergingOf 6 = .ok (.astore_n 3, 1) := by decide +kernel
theorem dX3_mergingOf_7 : decode cX3_mergingOf 7 = .ok (.aload_n 3, 1) := by decide +kernel
theorem dX3_mergingOf_8 : decode cX3_mergingOf 8 = .ok (.arraylength, 1) := by decide +kernel
theorem dX3_mergingOf_9 : decode cX3_mergingOf 9 = .ok (.istore 4, 2) := by decide +kernel
theorem dX3_mergingOf_11 : decode cX3_mergingOf 11 = .ok (.iconst 0, 1) := by decide +kernel
theorem dX3_mergingOf_12 : decode cX3_mergingOf 12 = .ok (.istore 5, 2) := by decide +kernel
theorem dX3_mergingOf_14 : decode cX3_mergingOf 14 = .ok (.iload 5, 2) := by decide +kernel
theorem dX3_mergingOf_16 : decode cX3_mergingOf 16 = .ok (.iload 4, 2) := by decide +kernel
theorem dX3_mergingOf_18 : decode cX3_mergingOf 18 = .ok (.if_icmp .ge 53, 3) := by decide +kernel
theorem dX3_mergingOf_21 : decode cX3_mergingOf 21 = .ok (.aload_n 3, 1) := by decide +kernel
theorem dX3_mergingOf_22 : decode cX3_mergingOf 22 = .ok (.iload 5, 2) := by decide +kernel
theorem dX3_mergingOf_24 : decode cX3_mergingOf 24 = .ok (.aaload, 1) := by decide +kernel
theorem dX3_mergingOf_25 : decode cX3_mergingOf 25 = .ok (.astore 6, 2) := by decide +kernel
theorem dX3_mergingOf_27 : decode cX3_mergingOf 27 = .ok (.aload 6, 2) := by decide +kernel
theorem dX3_mergingOf_29 : decode cX3_mergingOf 29 = .ok (.ifnull 36, 3) := by decide +kernel
theorem dX3_mergingOf_32 : decode cX3_mergingOf 32 = .ok (.aload_n 1, 1) := by decide +kernel
theorem dX3_mergingOf_33 : decode cX3_mergingOf 33 = .ok (.getfield 204, 3) := by decide +kernel
theorem dX3_mergingOf_36 : decode cX3_mergingOf 36 = .ok (.ifCond .le 29, 3) := by decide +kernel
theorem dX3_mergingOf_39 : decode cX3_mergingOf 39 = .ok (.aload 6, 2) := by decide +kernel
theorem dX3_mergingOf_41 : decode cX3_mergingOf 41 = .ok (.aload_n 1, 1) := by decide +kernel
theorem dX3_mergingOf_42 : decode cX3_mergingOf 42 = .ok (.invokevirtual 207, 3) := by decide +kernel
theorem dX3_mergingOf_45 : decode cX3_mergingOf 45 = .ok (.ifCond .eq 20, 3) := by decide +kernel
theorem dX3_mergingOf_48 : decode cX3_mergingOf 48 = .ok (.aload_n 2, 1) := by decide +kernel
theorem dX3_mergingOf_49 : decode cX3_mergingOf 49 = .ok (.ifnull 13, 3) := by decide +kernel
theorem dX3_mergingOf_52 : decode cX3_mergingOf 52 = .ok (.aload 6, 2) := by decide +kernel
theorem dX3_mergingOf_54 : decode cX3_mergingOf 54 = .ok (.aload_n 2, 1) := by decide +kernel
theorem dX3_mergingOf_55 : decode cX3_mergingOf 55 = .ok (.aload_n 1, 1) := by decide +kernel
theorem dX3_mergingOf_56 : decode cX3_mergingOf 56 = .ok (.invokestatic 210, 3) := by decide +kernel
theorem dX3_mergingOf_59 : decode cX3_mergingOf 59 = .ok (.ifCond .eq 6, 3) := by decide +kernel
theorem dX3_mergingOf_62 : decode cX3_mergingOf 62 = .ok (.aload 6, 2) := by decide +kernel
theorem dX3_mergingOf_64 : decode cX3_mergingOf 64 = .ok (.astore_n 2, 1) := by decide +kernel
theorem dX3_mergingOf_65 : decode cX3_mergingOf 65 = .ok (.iinc 5 1, 3) := by decide +kernel
theorem dX3_mergingOf_68 : decode cX3_mergingOf 68 = .ok (.goto (-54), 3) := by decide +kernel
theorem dX3_mergingOf_71 : decode cX3_mergingOf 71 = .ok (.aload_n 2, 1) := by decide +kernel
theorem dX3_mergingOf_72 : decode cX3_mergingOf 72 = .ok (.areturn, 1) := by decide +kernel
theorem dX3_isBetterMerging_0 : decode cX3_isBetterMerging 0 = .ok (.aload_n 1, 1) := by decide +kernel
theorem dX3_isBetterMerging_1 : decode cX3_isBetterMerging 1 = .ok (.aload_n 2, 1) := by decide +kernel
theorem dX3_isBetterMerging_2 : decode cX3_isBetterMerging 2 = .ok (.invokevirtual 214, 3) := by decide +kernel
theorem dX3_isBetterMerging_5 : decode cX3_isBetterMerging 5 = .ok (.aload_n 0, 1) := by decide +kernel
theorem dX3_isBetterMerging_6 : decode cX3_isBetterMerging 6 = .ok (.aload_n 2, 1) := by decide +kernel
theorem dX3_isBetterMerging_7 : decode cX3_isBetterMerging 7 = .ok (.invokevirtual 214, 3) := by decide +kernel
theorem dX3_isBetterMerging_10 : decode cX3_isBetterMerging 10 = .ok (.isub, 1) := by decide +kernel
theorem dX3_isBetterMerging_11 : decode cX3_isBetterMerging 11 = .ok (.istore_n 3, 1) := by decide +kernel
theorem dX3_isBetterMerging_12 : decode cX3_isBetterMerging 12 = .ok (.iload_n 3, 1) := by decide +kernel
theorem dX3_isBetterMerging_13 : decode cX3_isBetterMerging 13 = .ok (.ifCond .gt 18, 3) := by decide +kernel
theorem dX3_isBetterMerging_16 : decode cX3_isBetterMerging 16 = .ok (.iload_n 3, 1) := by decide +kernel
theorem dX3_isBetterMerging_17 : decode cX3_isBetterMerging 17 = .ok (.ifCond .ne 18, 3) := by decide +kernel
theorem dX3_isBetterMerging_20 : decode cX3_isBetterMerging 20 = .ok (.aload_n 0, 1) := by decide +kernel
theorem dX3_isBetterMerging_21 : decode cX3_isBetterMerging 21 = .ok (.getfield 204, 3) := by decide +kernel
theorem dX3_isBetterMerging_24 : decode cX3_isBetterMerging 24 = .ok (.aload_n 1, 1) := by decide +kernel
theorem dX3_isBetterMerging_25 : decode cX3_isBetterMerging 25 = .ok (.getfield 204, 3) := by decide +kernel
theorem dX3_isBetterMerging_28 : decode cX3_isBetterMerging 28 = .ok (.if_icmp .le 7, 3) := by decide +kernel
theorem dX3_isBetterMerging_31 : decode cX3_isBetterMerging 31 = .ok (.iconst 1, 1) := by decide +kernel
theorem dX3_isBetterMerging_32 : decode cX3_isBetterMerging 32 = .ok (.goto 4, 3) := by decide +kernel
theorem dX3_isBetterMerging_35 : decode cX3_isBetterMerging 35 = .ok (.iconst 0, 1) := by decide +kernel
theorem dX3_isBetterMerging_36 : decode cX3_isBetterMerging 36 = .ok (.ireturn, 1) := by decide +kernel
theorem dX3_merge_0 : decode cX3_merge 0 = .ok (.iconst 0, 1) := by decide +kernel
theorem dX3_merge_1 : decode cX3_merge 1 = .ok (.istore_n 3, 1) := by decide +kernel
theorem dX3_merge_2 : decode cX3_merge 2 = .ok (.iload_n 3, 1) := by decide +kernel
theorem dX3_merge_3 : decode cX3_merge 3 = .ok (.aload_n 1, 1) := by decide +kernel
theorem dX3_merge_4 : decode cX3_merge 4 = .ok (.getfield 204, 3) := by decide +kernel
theorem dX3_merge_7 : decode cX3_merge 7 = .ok (.if_icmp .ge 93, 3) := by decide +kernel
theorem dX3_merge_10 : decode cX3_merge 10 = .ok (.aload_n 0, 1) := by decide +kernel
theorem dX3_merge_11 : decode cX3_merge 11 = .ok (.aload_n 1, 1) := by decide +kernel
theorem dX3_merge_12 : decode cX3_merge 12 = .ok (.iload_n 3, 1) := by decide +kernel
theorem dX3_merge_13 : decode cX3_merge 13 = .ok (.invokevirtual 218, 3) := by decide +kernel
theorem dX3_merge_16 : decode cX3_merge 16 = .ok (.invokevirtual 111, 3) := by decide +kernel
theorem dX3_merge_19 : decode cX3_merge 19 = .ok (.astore 4, 2) := by decide +kernel
theorem dX3_merge_21 : decode cX3_merge 21 = .ok (.aload 4, 2) := by decide +kernel
theorem dX3_merge_23 : decode cX3_merge 23 = .ok (.ifnull 71, 3) := by decide +kernel
theorem dX3_merge_26 : decode cX3_merge 26 = .ok (.aload_n 2, 1) := by decide +kernel
theorem dX3_merge_27 : decode cX3_merge 27 = .ok (.aload 4, 2) := by decide +kernel
theorem dX3_merge_29 : decode cX3_merge 29 = .ok (.getfield 110, 3) := by decide +kernel
theorem dX3_merge_32 : decode cX3_merge 32 = .ok (.invokevirtual 189, 3) := by decide +kernel
theorem dX3_merge_35 : decode cX3_merge 35 = .ok (.aload 4, 2) := by decide +kernel
theorem dX3_merge_37 : decode cX3_merge 37 = .ok (.aload_n 2, 1) := by decide +kernel
theorem dX3_merge_38 : decode cX3_merge 38 = .ok (.getfield 96, 3) := by decide +kernel
theorem dX3_merge_41 : decode cX3_merge 41 = .ok (.putfield 182, 3) := by decide +kernel
theorem dX3_merge_44 : decode cX3_merge 44 = .ok (.aload 4, 2) := by decide +kernel
theorem dX3_merge_46 : decode cX3_merge 46 = .ok (.dup, 1) := by decide +kernel
theorem dX3_merge_47 : decode cX3_merge 47 = .ok (.getfield 195, 3) := by decide +kernel
theorem dX3_merge_50 : decode cX3_merge 50 = .ok (.iconst 1, 1) := by decide +kernel
theorem dX3_merge_51 : decode cX3_merge 51 = .ok (.iadd, 1) := by decide +kernel
theorem dX3_merge_52 : decode cX3_merge 52 = .ok (.putfield 195, 3) := by decide +kernel
theorem dX3_merge_55 : decode cX3_merge 55 = .ok (.iconst 0, 1) := by decide +kernel
theorem dX3_merge_56 : decode cX3_merge 56 = .ok (.aload 4, 2) := by decide +kernel
theorem dX3_merge_58 : decode cX3_merge 58 = .ok (.getfield 119, 3) := by decide +kernel
theorem dX3_merge_61 : decode cX3_merge 61 = .ok (.aload_n 2, 1) := by decide +kernel
theorem dX3_merge_62 : decode cX3_merge 62 = .ok (.getfield 192, 3) := by decide +kernel
theorem dX3_merge_65 : decode cX3_merge 65 = .ok (.isub, 1) := by decide +kernel
theorem dX3_merge_66 : decode cX3_merge 66 = .ok (.invokestatic 221, 3) := by decide +kernel
theorem dX3_merge_69 : decode cX3_merge 69 = .ok (.istore 5, 2) := by decide +kernel
theorem dX3_merge_71 : decode cX3_merge 71 = .ok (.aload 4, 2) := by decide +kernel
theorem dX3_merge_73 : decode cX3_merge 73 = .ok (.dup, 1) := by decide +kernel
theorem dX3_merge_74 : decode cX3_merge 74 = .ok (.getfield 119, 3) := by decide +kernel
theorem dX3_merge_77 : decode cX3_merge 77 = .ok (.iload 5, 2) := by decide +kernel
theorem dX3_merge_79 : decode cX3_merge 79 = .ok (.isub, 1) := by decide +kernel
theorem dX3_merge_80 : decode cX3_merge 80 = .ok (.putfield 119, 3) := by decide +kernel
theorem dX3_merge_83 : decode cX3_merge 83 = .ok (.aload_n 0, 1) := by decide +kernel
theorem dX3_merge_84 : decode cX3_merge 84 = .ok (.dup, 1) := by decide +kernel
theorem dX3_merge_85 : decode cX3_merge 85 = .ok (.getfield 70, 3) := by decide +kernel
theorem dX3_merge_88 : decode cX3_merge 88 = .ok (.iload 5, 2) := by decide +kernel
theorem dX3_merge_90 : decode cX3_merge 90 = .ok (.iadd, 1) := by decide +kernel
theorem dX3_merge_91 : decode cX3_merge 91 = .ok (.putfield 70, 3) := by decide +kernel
theorem dX3_merge_94 : decode cX3_merge 94 = .ok (.iinc 3 1, 3) := by decide +kernel
theorem dX3_merge_97 : decode cX3_merge 97 = .ok (.goto (-95), 3) := by decide +kernel
theorem dX3_merge_100 : decode cX3_merge 100 = .ok (.aload_n 1, 1) := by decide +kernel
theorem dX3_merge_101 : decode cX3_merge 101 = .ok (.iconst 0, 1) := by decide +kernel
theorem dX3_merge_102 : decode cX3_merge 102 = .ok (.putfield 204, 3) := by decide +kernel
theorem dX3_merge_105 : decode cX3_merge 105 = .ok (.aload_n 1, 1) := by decide +kernel
theorem dX3_merge_106 : decode cX3_merge 106 = .ok (.iconst 3, 1) := by decide +kernel
theorem dX3_merge_107 : decode cX3_merge 107 = .ok (.putfield 162, 3) := by decide +kernel
theorem dX3_merge_110 : decode cX3_merge 110 = .ok (.aload_n 1, 1) := by decide +kernel
theorem dX3_merge_111 : decode cX3_merge 111 = .ok (.iconst 1, 1) := by decide +kernel
theorem dX3_merge_112 : decode cX3_merge 112 = .ok (.putfield 224, 3) := by decide +kernel
theorem dX3_merge_115 : decode cX3_merge 115 = .ok (.aload_n 1, 1) := by decide +kernel
theorem dX3_merge_116 : decode cX3_merge 116 = .ok (.aload_n 2, 1) := by decide +kernel
theorem dX3_merge_117 : decode cX3_merge 117 = .ok (.getfield 96, 3) := by decide +kernel
theorem dX3_merge_120 : decode cX3_merge 120 = .ok (.putfield 227, 3) := by decide +kernel
theorem dX3_merge_123 : decode cX3_merge 123 = .ok (.aload_n 0, 1) := by decide +kernel
theorem dX3_merge_124 : decode cX3_merge 124 = .ok (.dup, 1) := by decide +kernel
theorem dX3_merge_125 : decode cX3_merge 125 = .ok (.getfield 79, 3) := by decide +kernel
theorem dX3_merge_128 : decode cX3_merge 128 = .ok (.iconst 1, 1) := by decide +kernel
theorem dX3_merge_129 : decode cX3_merge 129 = .ok (.iadd, 1) := by decide +kernel
theorem dX3_merge_130 : decode cX3_merge 130 = .ok (.putfield 79, 3) := by decide +kernel
theorem dX3_merge_133 : decode cX3_merge 133 = .ok (.return_, 1) := by decide +kernel
theorem dX3_cancel_0 : decode cX3_cancel 0 = .ok (.aload_n 0, 1) := by decide +kernel
theorem dX3_cancel_1 : decode cX3_cancel 1 = .ok (.getfield 19, 3) := by decide +kernel
theorem dX3_cancel_4 : decode cX3_cancel 4 = .ok (.astore_n 3, 1) := by decide +kernel
theorem dX3_cancel_5 : decode cX3_cancel 5 = .ok (.aload_n 3, 1) := by decide +kernel
theorem dX3_cancel_6 : decode cX3_cancel 6 = .ok (.arraylength, 1) := by decide +kernel
theorem dX3_cancel_7 : decode cX3_cancel 7 = .ok (.istore 4, 2) := by decide +kernel
theorem dX3_cancel_9 : decode cX3_cancel 9 = .ok (.iconst 0, 1) := by decide +kernel
theorem dX3_cancel_10 : decode cX3_cancel 10 = .ok (.istore 5, 2) := by decide +kernel
theorem dX3_cancel_12 : decode cX3_cancel 12 = .ok (.iload 5, 2) := by decide +kernel
theorem dX3_cancel_14 : decode cX3_cancel 14 = .ok (.iload 4, 2) := by decide +kernel
theorem dX3_cancel_16 : decode cX3_cancel 16 = .ok (.if_icmp .ge 38, 3) := by decide +kernel
theorem dX3_cancel_19 : decode cX3_cancel 19 = .ok (.aload_n 3, 1) := by decide +kernel
theorem dX3_cancel_20 : decode cX3_cancel 20 = .ok (.iload 5, 2) := by decide +kernel
theorem dX3_cancel_22 : decode cX3_cancel 22 = .ok (.aaload, 1) := by decide +kernel
theorem dX3_cancel_23 : decode cX3_cancel 23 = .ok (.astore 6, 2) := by decide +kernel
theorem dX3_cancel_25 : decode cX3_cancel 25 = .ok (.aload 6, 2) := by decide +kernel
theorem dX3_cancel_27 : decode cX3_cancel 27 = .ok (.ifnull 21, 3) := by decide +kernel
theorem dX3_cancel_30 : decode cX3_cancel 30 = .ok (.aload 6, 2) := by decide +kernel
theorem dX3_cancel_32 : decode cX3_cancel 32 = .ok (.getfield 182, 3) := by decide +kernel
theorem dX3_cancel_35 : decode cX3_cancel 35 = .ok (.aload_n 1, 1) := by decide +kernel
theorem dX3_cancel_36 : decode cX3_cancel 36 = .ok (.getfield 96, 3) := by decide +kernel
theorem dX3_cancel_39 : decode cX3_cancel 39 = .ok (.if_icmp .ne 9, 3) := by decide +kernel
theorem dX3_cancel_42 : decode cX3_cancel 42 = .ok (.aload_n 0, 1) := by decide +kernel
theorem dX3_cancel_43 : decode cX3_cancel 43 = .ok (.aload 6, 2) := by decide +kernel
theorem dX3_cancel_45 : decode cX3_cancel 45 = .ok (.invokevirtual 120, 3) := by decide +kernel
theorem dX3_cancel_48 : decode cX3_cancel 48 = .ok (.iinc 5 1, 3) := by decide +kernel
theorem dX3_cancel_51 : decode cX3_cancel 51 = .ok (.goto (-39), 3) := by decide +kernel
theorem dX3_cancel_54 : decode cX3_cancel 54 = .ok (.aload_n 1, 1) := by decide +kernel
theorem dX3_cancel_55 : decode cX3_cancel 55 = .ok (.iconst 2, 1) := by decide +kernel
theorem dX3_cancel_56 : decode cX3_cancel 56 = .ok (.putfield 162, 3) := by decide +kernel
theorem dX3_cancel_59 : decode cX3_cancel 59 = .ok (.aload_n 1, 1) := by decide +kernel
theorem dX3_cancel_60 : decode cX3_cancel 60 = .ok (.iload_n 2, 1) := by decide +kernel
theorem dX3_cancel_61 : decode cX3_cancel 61 = .ok (.putfield 224, 3) := by decide +kernel
theorem dX3_cancel_64 : decode cX3_cancel 64 = .ok (.aload_n 0, 1) := by decide +kernel
theorem dX3_cancel_65 : decode cX3_cancel 65 = .ok (.dup, 1) := by decide +kernel
theorem dX3_cancel_66 : decode cX3_cancel 66 = .ok (.getfield 82, 3) := by decide +kernel
theorem dX3_cancel_69 : decode cX3_cancel 69 = .ok (.iconst 1, 1) := by decide +kernel
theorem dX3_cancel_70 : decode cX3_cancel 70 = .ok (.iadd, 1) := by decide +kernel
theorem dX3_cancel_71 : decode cX3_cancel 71 = .ok (.putfield 82, 3) := by decide +kernel
theorem dX3_cancel_74 : decode cX3_cancel 74 = .ok (.return_, 1) := by decide +kernel
theorem dX3_findsRoom_0 : decode cX3_findsRoom 0 = .ok (.aload_n 0, 1) := by decide +kernel
theorem dX3_findsRoom_1 : decode cX3_findsRoom 1 = .ok (.aload_n 1, 1) := by decide +kernel
theorem dX3_findsRoom_2 : decode cX3_findsRoom 2 = .ok (.invokevirtual 230, 3) := by decide +kernel
theorem dX3_findsRoom_5 : decode cX3_findsRoom 5 = .ok (.istore_n 2, 1) := by decide +kernel
theorem dX3_findsRoom_6 : decode cX3_findsRoom 6 = .ok (.iload_n 2, 1) := by decide +kernel
theorem dX3_findsRoom_7 : decode cX3_findsRoom 7 = .ok (.iconst (-1), 1) := by decide +kernel
theorem dX3_findsRoom_8 : decode cX3_findsRoom 8 = .ok (.if_icmp .ne 5, 3) := by decide +kernel
theorem dX3_findsRoom_11 : decode cX3_findsRoom 11 = .ok (.iconst 0, 1) := by decide +kernel
theorem dX3_findsRoom_12 : decode cX3_findsRoom 12 = .ok (.ireturn, 1) := by decide +kernel
theorem dX3_findsRoom_13 : decode cX3_findsRoom 13 = .ok (.aload_n 1, 1) := by decide +kernel
theorem dX3_findsRoom_14 : decode cX3_findsRoom 14 = .ok (.iload_n 2, 1) := by decide +kernel
theorem dX3_findsRoom_15 : decode cX3_findsRoom 15 = .ok (.putfield 233, 3) := by decide +kernel
theorem dX3_findsRoom_18 : decode cX3_findsRoom 18 = .ok (.aload_n 1, 1) := by decide +kernel
theorem dX3_findsRoom_19 : decode cX3_findsRoom 19 = .ok (.iconst 1, 1) := by decide +kernel
theorem dX3_findsRoom_20 : decode cX3_findsRoom 20 = .ok (.putfield 162, 3) := by decide +kernel
theorem dX3_findsRoom_23 : decode cX3_findsRoom 23 = .ok (.iconst 1, 1) := by decide +kernel
theorem dX3_findsRoom_24 : decode cX3_findsRoom 24 = .ok (.ireturn, 1) := by decide +kernel
theorem dX3_greatestOpen_0 : decode cX3_greatestOpen 0 = .ok (.aconst_null, 1) := by decide +kernel
theorem dX3_greatestOpen_1 : decode cX3_greatestOpen 1 = .ok (.astore_n 1, 1) := by decide +kernel
theorem dX3_greatestOpen_2 : decode cX3_greatestOpen 2 = .ok (.aload_n 0, 1) := by decide +kernel
theorem dX3_greatestOpen_3 : decode cX3_greatestOpen 3 = .ok (.getfield 11, 3) := by decide +kernel
theorem dX3_greatestOpen_6 : decode cX3_greatestOpen 6 = .ok (.astore_n 2, 1) := by decide +kernel
theorem dX3_greatestOpen_7 : decode cX3_greatestOpen 7 = .ok (.aload_n 2, 1) := by decide +kernel
theorem dX3_greatestOpen_8 : decode cX3_greatestOpen 8 = .ok (.arraylength, 1) := by decide +kernel
theorem dX3_greatestOpen_9 : decode cX3_greatestOpen 9 = .ok (.istore_n 3, 1) := by decide +kernel
theorem dX3_greatestOpen_10 : decode cX3_greatestOpen 10 = .ok (.iconst 0, 1) := by decide +kernel
theorem dX3_greatestOpen_11 : decode cX3_greatestOpen 11 = .ok (.istore 4, 2) := by decide +kernel
theorem dX3_greatestOpen_13 : decode cX3_greatestOpen 13 = .ok (.iload 4, 2) := by decide +kernel
theorem dX3_greatestOpen_15 : decode cX3_greatestOpen 15 = .ok (.iload_n 3, 1) := by decide +kernel
theorem dX3_greatestOpen_16 : decode cX3_greatestOpen 16 = .ok (.if_icmp .ge 47, 3) := by decide +kernel
theorem dX3_greatestOpen_19 : decode cX3_greatestOpen 19 = .ok (.aload_n 2, 1) := by decide +kernel
theorem dX3_greatestOpen_20 : decode cX3_greatestOpen 20 = .ok (.iload 4, 2) := by decide +kernel
theorem dX3_greatestOpen_22 : decode cX3_greatestOpen 22 = .ok (.aaload, 1) := by decide +kernel
theorem dX3_greatestOpen_23 : decode cX3_greatestOpen 23 = .ok (.astore 5, 2) := by decide +kernel
theorem dX3_greatestOpen_25 : decode cX3_greatestOpen 25 = .ok (.aload 5, 2) := by decide +kernel
theorem dX3_greatestOpen_27 : decode cX3_greatestOpen 27 = .ok (.ifnull 30, 3) := by decide +kernel
theorem dX3_greatestOpen_30 : decode cX3_greatestOpen 30 = .ok (.aload 5, 2) := by decide +kernel
theorem dX3_greatestOpen_32 : decode cX3_greatestOpen 32 = .ok (.getfield 162, 3) := by decide +kernel
theorem dX3_greatestOpen_35 : decode cX3_greatestOpen 35 = .ok (.ifCond .ne 22, 3) := by decide +kernel
theorem dX3_greatestOpen_38 : decode cX3_greatestOpen 38 = .ok (.aload_n 1, 1) := by decide +kernel
theorem dX3_greatestOpen_39 : decode cX3_greatestOpen 39 = .ok (.ifnull 15, 3) := by decide +kernel
theorem dX3_greatestOpen_42 : decode cX3_greatestOpen 42 = .ok (.aload 5, 2) := by decide +kernel
theorem dX3_greatestOpen_44 : decode cX3_greatestOpen 44 = .ok (.getfield 204, 3) := by decide +kernel
theorem dX3_greatestOpen_47 : decode cX3_greatestOpen 47 = .ok (.aload_n 1, 1) := by decide +kernel
theorem dX3_greatestOpen_48 : decode cX3_greatestOpen 48 = .ok (.getfield 204, 3) := by decide +kernel
theorem dX3_greatestOpen_51 : decode cX3_greatestOpen 51 = .ok (.if_icmp .le 6, 3) := by decide +kernel
theorem dX3_greatestOpen_54 : decode cX3_greatestOpen 54 = .ok (.aload 5, 2) := by decide +kernel
theorem dX3_greatestOpen_56 : decode cX3_greatestOpen 56 = .ok (.astore_n 1, 1) := by decide +kernel
theorem dX3_greatestOpen_57 : decode cX3_greatestOpen 57 = .ok (.iinc 4 1, 3) := by decide +kernel
theorem dX3_greatestOpen_60 : decode cX3_greatestOpen 60 = .ok (.goto (-47), 3) := by decide +kernel
theorem dX3_greatestOpen_63 : decode cX3_greatestOpen 63 = .ok (.aload_n 1, 1) := by decide +kernel
theorem dX3_greatestOpen_64 : decode cX3_greatestOpen 64 = .ok (.areturn, 1) := by decide +kernel
theorem dX3_roomFor_0 : decode cX3_roomFor 0 = .ok (.iconst (-1), 1) := by decide +kernel
theorem dX3_roomFor_1 : decode cX3_roomFor 1 = .ok (.istore_n 2, 1) := by decide +kernel
theorem dX3_roomFor_2 : decode cX3_roomFor 2 = .ok (.iconst 0, 1) := by decide +kernel
theorem dX3_roomFor_3 : decode cX3_roomFor 3 = .ok (.istore_n 3, 1) := by decide +kernel
theorem dX3_roomFor_4 : decode cX3_roomFor 4 = .ok (.iload_n 3, 1) := by decide +kernel
theorem dX3_roomFor_5 : decode cX3_roomFor 5 = .ok (.aload_n 0, 1) := by decide +kernel
theorem dX3_roomFor_6 : decode cX3_roomFor 6 = .ok (.getfield 57, 3) := by decide +kernel
theorem dX3_roomFor_9 : decode cX3_roomFor 9 = .ok (.if_icmp .ge 65, 3) := by decide +kernel
theorem dX3_roomFor_12 : decode cX3_roomFor 12 = .ok (.aload_n 0, 1) := by decide +kernel
theorem dX3_roomFor_13 : decode cX3_roomFor 13 = .ok (.iload_n 3, 1) := by decide +kernel
theorem dX3_roomFor_14 : decode cX3_roomFor 14 = .ok (.invokevirtual 236, 3) := by decide +kernel
theorem dX3_roomFor_17 : decode cX3_roomFor 17 = .ok (.aload_n 1, 1) := by decide +kernel
theorem dX3_roomFor_18 : decode cX3_roomFor 18 = .ok (.getfield 204, 3) := by decide +kernel
theorem dX3_roomFor_21 : decode cX3_roomFor 21 = .ok (.if_icmp .lt 19, 3) := by decide +kernel
theorem dX3_roomFor_24 : decode cX3_roomFor 24 = .ok (.aload_n 0, 1) := by decide +kernel
theorem dX3_roomFor_25 : decode cX3_roomFor 25 = .ok (.iload_n 3, 1) := by decide +kernel
theorem dX3_roomFor_26 : decode cX3_roomFor 26 = .ok (.aload_n 1, 1) := by decide +kernel
theorem dX3_roomFor_27 : decode cX3_roomFor 27 = .ok (.getfield 239, 3) := by decide +kernel
theorem dX3_roomFor_30 : decode cX3_roomFor 30 = .ok (.invokevirtual 242, 3) := by decide +kernel
theorem dX3_roomFor_33 : decode cX3_roomFor 33 = .ok (.ifCond .ne 7, 3) := by decide +kernel
theorem dX3_roomFor_36 : decode cX3_roomFor 36 = .ok (.iconst 1, 1) := by decide +kernel
theorem dX3_roomFor_37 : decode cX3_roomFor 37 = .ok (.goto 4, 3) := by decide +kernel
theorem dX3_roomFor_40 : decode cX3_roomFor 40 = .ok (.iconst 0, 1) := by decide +kernel
theorem dX3_roomFor_41 : decode cX3_roomFor 41 = .ok (.istore 4, 2) := by decide +kernel
theorem dX3_roomFor_43 : decode cX3_roomFor 43 = .ok (.iload 4, 2) := by decide +kernel
theorem dX3_roomFor_45 : decode cX3_roomFor 45 = .ok (.ifCond .eq 23, 3) := by decide +kernel
theorem dX3_roomFor_48 : decode cX3_roomFor 48 = .ok (.iload_n 2, 1) := by decide +kernel
theorem dX3_roomFor_49 : decode cX3_roomFor 49 = .ok (.iconst (-1), 1) := by decide +kernel
theorem dX3_roomFor_50 : decode cX3_roomFor 50 = .ok (.if_icmp .eq 16, 3) := by decide +kernel
theorem dX3_roomFor_53 : decode cX3_roomFor 53 = .ok (.aload_n 0, 1) := by decide +kernel
theorem dX3_roomFor_54 : decode cX3_roomFor 54 = .ok (.iload_n 3, 1) := by decide +kernel
theorem dX3_roomFor_55 : decode cX3_roomFor 55 = .ok (.invokevirtual 236, 3) := by decide +kernel
theorem dX3_roomFor_58 : decode cX3_roomFor 58 = .ok (.aload_n 0, 1) := by decide +kernel
theorem dX3_roomFor_59 : decode cX3_roomFor 59 = .ok (.iload_n 2, 1) := by decide +kernel
theorem dX3_roomFor_60 : decode cX3_roomFor 60 = .ok (.invokevirtual 236, 3) := by decide +kernel
theorem dX3_roomFor_63 : decode cX3_roomFor 63 = .ok (.if_icmp .ge 5, 3) := by decide +kernel
theorem dX3_roomFor_66 : decode cX3_roomFor 66 = .ok (.iload_n 3, 1) := by decide +kernel
theorem dX3_roomFor_67 : decode cX3_roomFor 67 = .ok (.istore_n 2, 1) := by decide +kernel
theorem dX3_roomFor_68 : decode cX3_roomFor 68 = .ok (.iinc 3 1, 3) := by decide +kernel
theorem dX3_roomFor_71 : decode cX3_roomFor 71 = .ok (.goto (-67), 3) := by decide +kernel
theorem dX3_roomFor_74 : decode cX3_roomFor 74 = .ok (.iload_n 2, 1) := by decide +kernel
theorem dX3_roomFor_75 : decode cX3_roomFor 75 = .ok (.ireturn, 1) := by decide +kernel
theorem dX3_isGiven_0 : decode cX3_isGiven 0 = .ok (.aload_n 0, 1) := by decide +kernel
theorem dX3_isGiven_1 : decode cX3_isGiven 1 = .ok (.getfield 11, 3) := by decide +kernel
theorem dX3_isGiven_4 : decode cX3_isGiven 4 = .ok (.astore_n 3, 1) := by decide +kernel
theorem dX3_isGiven_5 : decode cX3_isGiven 5 = .ok (.aload_n 3, 1) := by decide +kernel
theorem dX3_isGiven_6 : decode cX3_isGiven 6 = .ok (.arraylength, 1) := by decide +kernel
theorem dX3_isGiven_7 : decode cX3_isGiven 7 = .ok (.istore 4, 2) := by decide +kernel
theorem dX3_isGiven_9 : decode cX3_isGiven 9 = .ok (.iconst 0, 1) := by decide +kernel
theorem dX3_isGiven_10 : decode cX3_isGiven 10 = .ok (.istore 5, 2) := by decide +kernel
theorem dX3_isGiven_12 : decode cX3_isGiven 12 = .ok (.iload 5, 2) := by decide +kernel
theorem dX3_isGiven_14 : decode cX3_isGiven 14 = .ok (.iload 4, 2) := by decide +kernel
theorem dX3_isGiven_16 : decode cX3_isGiven 16 = .ok (.if_icmp .ge 40, 3) := by decide +kernel
theorem dX3_isGiven_19 : decode cX3_isGiven 19 = .ok (.aload_n 3, 1) := by decide +kernel
theorem dX3_isGiven_20 : decode cX3_isGiven 20 = .ok (.iload 5, 2) := by decide +kernel
theorem dX3_isGiven_22 : decode cX3_isGiven 22 = .ok (.aaload, 1) := by decide +kernel
theorem dX3_isGiven_23 : decode cX3_isGiven 23 = .ok (.astore 6, 2) := by decide +kernel
theorem dX3_isGiven_25 : decode cX3_isGiven 25 = .ok (.aload 6, 2) := by decide +kernel
theorem dX3_isGiven_27 : decode cX3_isGiven 27 = .ok (.ifnull 23, 3) := by decide +kernel
theorem dX3_isGiven_30 : decode cX3_isGiven 30 = .ok (.aload 6, 2) := by decide +kernel
theorem dX3_isGiven_32 : decode cX3_isGiven 32 = .ok (.getfield 233, 3) := by decide +kernel
theorem dX3_isGiven_35 : decode cX3_isGiven 35 = .ok (.iload_n 1, 1) := by decide +kernel
theorem dX3_isGiven_36 : decode cX3_isGiven 36 = .ok (.if_icmp .ne 14, 3) := by decide +kernel
theorem dX3_isGiven_39 : decode cX3_isGiven 39 = .ok (.aload 6, 2) := by decide +kernel
theorem dX3_isGiven_41 : decode cX3_isGiven 41 = .ok (.getfield 239, 3) := by decide +kernel
theorem dX3_isGiven_44 : decode cX3_isGiven 44 = .ok (.iload_n 2, 1) := by decide +kernel
theorem dX3_isGiven_45 : decode cX3_isGiven 45 = .ok (.if_icmp .ne 5, 3) := by decide +kernel
theorem dX3_isGiven_48 : decode cX3_isGiven 48 = .ok (.iconst 1, 1) := by decide +kernel
theorem dX3_isGiven_49 : decode cX3_isGiven 49 = .ok (.ireturn, 1) := by decide +kernel
theorem dX3_isGiven_50 : decode cX3_isGiven 50 = .ok (.iinc 5 1, 3) := by decide +kernel
theorem dX3_isGiven_53 : decode cX3_isGiven 53 = .ok (.goto (-41), 3) := by decide +kernel
theorem dX3_isGiven_56 : decode cX3_isGiven 56 = .ok (.iconst 0, 1) := by decide +kernel
theorem dX3_isGiven_57 : decode cX3_isGiven 57 = .ok (.ireturn, 1) := by decide +kernel
theorem dX3_coursesIn_0 : decode cX3_coursesIn 0 = .ok (.iconst 0, 1) := by decide +kernel
theorem dX3_coursesIn_1 : decode cX3_coursesIn 1 = .ok (.istore_n 2, 1) := by decide +kernel
theorem dX3_coursesIn_2 : decode cX3_coursesIn 2 = .ok (.aload_n 0, 1) := by decide +kernel
theorem dX3_coursesIn_3 : decode cX3_coursesIn 3 = .ok (.getfield 11, 3) := by decide +kernel
theorem dX3_coursesIn_6 : decode cX3_coursesIn 6 = .ok (.astore_n 3, 1) := by decide +kernel
theorem dX3_coursesIn_7 : decode cX3_coursesIn 7 = .ok (.aload_n 3, 1) := by decide +kernel
theorem dX3_coursesIn_8 : decode cX3_coursesIn 8 = .ok (.arraylength, 1) := by decide +kernel
theorem dX3_coursesIn_9 : decode cX3_coursesIn 9 = .ok (.istore 4, 2) := by decide +kernel
theorem dX3_coursesIn_11 : decode cX3_coursesIn 11 = .ok (.iconst 0, 1) := by decide +kernel
theorem dX3_coursesIn_12 : decode cX3_coursesIn 12 = .ok (.istore 5, 2) := by decide +kernel
theorem dX3_coursesIn_14 : decode cX3_coursesIn 14 = .ok (.iload 5, 2) := by decide +kernel
theorem dX3_coursesIn_16 : decode cX3_coursesIn 16 = .ok (.iload 4, 2) := by decide +kernel
theorem dX3_coursesIn_18 : decode cX3_coursesIn 18 = .ok (.if_icmp .ge 39, 3) := by decide +kernel
theorem dX3_coursesIn_21 : decode cX3_coursesIn 21 = .ok (.aload_n 3, 1) := by decide +kernel
theorem dX3_coursesIn_22 : decode cX3_coursesIn 22 = .ok (.iload 5, 2) := by decide +kernel
theorem dX3_coursesIn_24 : decode cX3_coursesIn 24 = .ok (.aaload, 1) := by decide +kernel
theorem dX3_coursesIn_25 : decode cX3_coursesIn 25 = .ok (.astore 6, 2) := by decide +kernel
theorem dX3_coursesIn_27 : decode cX3_coursesIn 27 = .ok (.aload 6, 2) := by decide +kernel
theorem dX3_coursesIn_29 : decode cX3_coursesIn 29 = .ok (.ifnull 22, 3) := by decide +kernel
theorem dX3_coursesIn_32 : decode cX3_coursesIn 32 = .ok (.aload 6, 2) := by decide +kernel
theorem dX3_coursesIn_34 : decode cX3_coursesIn 34 = .ok (.getfield 233, 3) := by decide +kernel
theorem dX3_coursesIn_37 : decode cX3_coursesIn 37 = .ok (.iload_n 1, 1) := by decide +kernel
theorem dX3_coursesIn_38 : decode cX3_coursesIn 38 = .ok (.if_icmp .ne 13, 3) := by decide +kernel
theorem dX3_coursesIn_41 : decode cX3_coursesIn 41 = .ok (.iload_n 2, 1) := by decide +kernel
theorem dX3_coursesIn_42 : decode cX3_coursesIn 42 = .ok (.iconst 1, 1) := by decide +kernel
theorem dX3_coursesIn_43 : decode cX3_coursesIn 43 = .ok (.aload 6, 2) := by decide +kernel
theorem dX3_coursesIn_45 : decode cX3_coursesIn 45 = .ok (.getfield 96, 3) := by decide +kernel
theorem dX3_coursesIn_48 : decode cX3_coursesIn 48 = .ok (.ishl, 1) := by decide +kernel
theorem dX3_coursesIn_49 : decode cX3_coursesIn 49 = .ok (.ior, 1) := by decide +kernel
theorem dX3_coursesIn_50 : decode cX3_coursesIn 50 = .ok (.istore_n 2, 1) := by decide +kernel
theorem dX3_coursesIn_51 : decode cX3_coursesIn 51 = .ok (.iinc 5 1, 3) := by decide +kernel
theorem dX3_coursesIn_54 : decode cX3_coursesIn 54 = .ok (.goto (-40), 3) := by decide +kernel
theorem dX3_coursesIn_57 : decode cX3_coursesIn 57 = .ok (.iload_n 2, 1) := by decide +kernel
theorem dX3_coursesIn_58 : decode cX3_coursesIn 58 = .ok (.ireturn, 1) := by decide +kernel
theorem dX3_chairsLeft_0 : decode cX3_chairsLeft 0 = .ok (.iconst (-1), 1) := by decide +kernel
theorem dX3_chairsLeft_1 : decode cX3_chairsLeft 1 = .ok (.istore_n 2, 1) := by decide +kernel
theorem dX3_chairsLeft_2 : decode cX3_chairsLeft 2 = .ok (.aload_n 0, 1) := by decide +kernel
theorem dX3_chairsLeft_3 : decode cX3_chairsLeft 3 = .ok (.getfield 11, 3) := by decide +kernel
theorem dX3_chairsLeft_6 : decode cX3_chairsLeft 6 = .ok (.astore_n 3, 1) := by decide +kernel
theorem dX3_chairsLeft_7 : decode cX3_chairsLeft 7 = .ok (.aload_n 3, 1) := by decide +kernel
theorem dX3_chairsLeft_8 : decode cX3_chairsLeft 8 = .ok (.arraylength, 1) := by decide +kernel
theorem dX3_chairsLeft_9 : decode cX3_chairsLeft 9 = .ok (.istore 4, 2) := by decide +kernel
theorem dX3_chairsLeft_11 : decode cX3_chairsLeft 11 = .ok (.iconst 0, 1) := by decide +kernel
theorem dX3_chairsLeft_12 : decode cX3_chairsLeft 12 = .ok (.istore 5, 2) := by decide +kernel
theorem dX3_chairsLeft_14 : decode cX3_chairsLeft 14 = .ok (.iload 5, 2) := by decide +kernel
theorem dX3_chairsLeft_16 : decode cX3_chairsLeft 16 = .ok (.iload 4, 2) := by decide +kernel
theorem dX3_chairsLeft_18 : decode cX3_chairsLeft 18 = .ok (.if_icmp .ge 59, 3) := by decide +kernel
theorem dX3_chairsLeft_21 : decode cX3_chairsLeft 21 = .ok (.aload_n 3, 1) := by decide +kernel
theorem dX3_chairsLeft_22 : decode cX3_chairsLeft 22 = .ok (.iload 5, 2) := by decide +kernel
theorem dX3_chairsLeft_24 : decode cX3_chairsLeft 24 = .ok (.aaload, 1) := by decide +kernel
theorem dX3_chairsLeft_25 : decode cX3_chairsLeft 25 = .ok (.astore 6, 2) := by decide +kernel
theorem dX3_chairsLeft_27 : decode cX3_chairsLeft 27 = .ok (.aload 6, 2) := by decide +kernel
theorem dX3_chairsLeft_29 : decode cX3_chairsLeft 29 = .ok (.ifnull 42, 3) := by decide +kernel
theorem dX3_chairsLeft_32 : decode cX3_chairsLeft 32 = .ok (.aload 6, 2) := by decide +kernel
theorem dX3_chairsLeft_34 : decode cX3_chairsLeft 34 = .ok (.getfield 233, 3) := by decide +kernel
theorem dX3_chairsLeft_37 : decode cX3_chairsLeft 37 = .ok (.iload_n 1, 1) := by decide +kernel
theorem dX3_chairsLeft_38 : decode cX3_chairsLeft 38 = .ok (.if_icmp .ne 33, 3) := by decide +kernel
theorem dX3_chairsLeft_41 : decode cX3_chairsLeft 41 = .ok (.aload_n 0, 1) := by decide +kernel
theorem dX3_chairsLeft_42 : decode cX3_chairsLeft 42 = .ok (.iload_n 1, 1) := by decide +kernel
theorem dX3_chairsLeft_43 : decode cX3_chairsLeft 43 = .ok (.invokevirtual 236, 3) := by decide +kernel
theorem dX3_chairsLeft_46 : decode cX3_chairsLeft 46 = .ok (.aload 6, 2) := by decide +kernel
theorem dX3_chairsLeft_48 : decode cX3_chairsLeft 48 = .ok (.getfield 204, 3) := by decide +kernel
theorem dX3_chairsLeft_51 : decode cX3_chairsLeft 51 = .ok (.isub, 1) := by decide +kernel
theorem dX3_chairsLeft_52 : decode cX3_chairsLeft 52 = .ok (.istore 7, 2) := by decide +kernel
theorem dX3_chairsLeft_54 : decode cX3_chairsLeft 54 = .ok (.iload_n 2, 1) := by decide +kernel
theorem dX3_chairsLeft_55 : decode cX3_chairsLeft 55 = .ok (.iconst (-1), 1) := by decide +kernel
theorem dX3_chairsLeft_56 : decode cX3_chairsLeft 56 = .ok (.if_icmp .ne 8, 3) := by decide +kernel
theorem dX3_chairsLeft_59 : decode cX3_chairsLeft 59 = .ok (.iload 7, 2) := by decide +kernel
theorem dX3_chairsLeft_61 : decode cX3_chairsLeft 61 = .ok (.goto 9, 3) := by decide +kernel
theorem dX3_chairsLeft_64 : decode cX3_chairsLeft 64 = .ok (.iload_n 2, 1) := by decide +kernel
theorem dX3_chairsLeft_65 : decode cX3_chairsLeft 65 = .ok (.iload 7, 2) := by decide +kernel
theorem dX3_chairsLeft_67 : decode cX3_chairsLeft 67 = .ok (.invokestatic 38, 3) := by decide +kernel
theorem dX3_chairsLeft_70 : decode cX3_chairsLeft 70 = .ok (.istore_n 2, 1) := by decide +kernel
theorem dX3_chairsLeft_71 : decode cX3_chairsLeft 71 = .ok (.iinc 5 1, 3) := by decide +kernel
theorem dX3_chairsLeft_74 : decode cX3_chairsLeft 74 = .ok (.goto (-60), 3) := by decide +kernel
theorem dX3_chairsLeft_77 : decode cX3_chairsLeft 77 = .ok (.iload_n 2, 1) := by decide +kernel
theorem dX3_chairsLeft_78 : decode cX3_chairsLeft 78 = .ok (.ireturn, 1) := by decide +kernel
theorem dX3_coursesThatAre_0 : decode cX3_coursesThatAre 0 = .ok (.iconst 0, 1) := by decide +kernel
theorem dX3_coursesThatAre_1 : decode cX3_coursesThatAre 1 = .ok (.istore_n 2, 1) := by decide +kernel
theorem dX3_coursesThatAre_2 : decode cX3_coursesThatAre 2 = .ok (.aload_n 0, 1) := by decide +kernel
theorem dX3_coursesThatAre_3 : decode cX3_coursesThatAre 3 = .ok (.getfield 11, 3) := by decide +kernel
theorem dX3_coursesThatAre_6 : decode cX3_coursesThatAre 6 = .ok (.astore_n 3, 1) := by decide +kernel
theorem dX3_coursesThatAre_7 : decode cX3_coursesThatAre 7 = .ok (.aload_n 3, 1) := by decide +kernel
theorem dX3_coursesThatAre_8 : decode cX3_coursesThatAre 8 = .ok (.arraylength, 1) := by decide +kernel
theorem dX3_coursesThatAre_9 : decode cX3_coursesThatAre 9 = .ok (.istore 4, 2) := by decide +kernel
theorem dX3_coursesThatAre_11 : decode cX3_coursesThatAre 11 = .ok (.iconst 0, 1) := by decide +kernel
theorem dX3_coursesThatAre_12 : decode cX3_coursesThatAre 12 = .ok (.istore 5, 2) := by decide +kernel
theorem dX3_coursesThatAre_14 : decode cX3_coursesThatAre 14 = .ok (.iload 5, 2) := by decide +kernel
theorem dX3_coursesThatAre_16 : decode cX3_coursesThatAre 16 = .ok (.iload 4, 2) := by decide +kernel
theorem dX3_coursesThatAre_18 : decode cX3_coursesThatAre 18 = .ok (.if_icmp .ge 39, 3) := by decide +kernel
theorem dX3_coursesThatAre_21 : decode cX3_coursesThatAre 21 = .ok (.aload_n 3, 1) := by decide +kernel
theorem dX3_coursesThatAre_22 : decode cX3_coursesThatAre 22 = .ok (.iload 5, 2) := by decide +kernel
theorem dX3_coursesThatAre_24 : decode cX3_coursesThatAre 24 = .ok (.aaload, 1) := by decide +kernel
theorem dX3_coursesThatAre_25 : decode cX3_coursesThatAre 25 = .ok (.astore 6, 2) := by decide +kernel
theorem dX3_coursesThatAre_27 : decode cX3_coursesThatAre 27 = .ok (.aload 6, 2) := by decide +kernel
theorem dX3_coursesThatAre_29 : decode cX3_coursesThatAre 29 = .ok (.ifnull 22, 3) := by decide +kernel
theorem dX3_coursesThatAre_32 : decode cX3_coursesThatAre 32 = .ok (.aload 6, 2) := by decide +kernel
theorem dX3_coursesThatAre_34 : decode cX3_coursesThatAre 34 = .ok (.getfield 162, 3) := by decide +kernel
theorem dX3_coursesThatAre_37 : decode cX3_coursesThatAre 37 = .ok (.iload_n 1, 1) := by decide +kernel
theorem dX3_coursesThatAre_38 : decode cX3_coursesThatAre 38 = .ok (.if_icmp .ne 13, 3) := by decide +kernel
theorem dX3_coursesThatAre_41 : decode cX3_coursesThatAre 41 = .ok (.iload_n 2, 1) := by decide +kernel
theorem dX3_coursesThatAre_42 : decode cX3_coursesThatAre 42 = .ok (.iconst 1, 1) := by decide +kernel
theorem dX3_coursesThatAre_43 : decode cX3_coursesThatAre 43 = .ok (.aload 6, 2) := by decide +kernel
theorem dX3_coursesThatAre_45 : decode cX3_coursesThatAre 45 = .ok (.getfield 96, 3) := by decide +kernel
theorem dX3_coursesThatAre_48 : decode cX3_coursesThatAre 48 = .ok (.ishl, 1) := by decide +kernel
theorem dX3_coursesThatAre_49 : decode cX3_coursesThatAre 49 = .ok (.ior, 1) := by decide +kernel
theorem dX3_coursesThatAre_50 : decode cX3_coursesThatAre 50 = .ok (.istore_n 2, 1) := by decide +kernel
theorem dX3_coursesThatAre_51 : decode cX3_coursesThatAre 51 = .ok (.iinc 5 1, 3) := by decide +kernel
theorem dX3_coursesThatAre_54 : decode cX3_coursesThatAre 54 = .ok (.goto (-40), 3) := by decide +kernel
theorem dX3_coursesThatAre_57 : decode cX3_coursesThatAre 57 = .ok (.iload_n 2, 1) := by decide +kernel
theorem dX3_coursesThatAre_58 : decode cX3_coursesThatAre 58 = .ok (.ireturn, 1) := by decide +kernel
theorem dX3_coursesWithPlace_0 : decode cX3_coursesWithPlace 0 = .ok (.iconst 0, 1) := by decide +kernel
theorem dX3_coursesWithPlace_1 : decode cX3_coursesWithPlace 1 = .ok (.istore_n 1, 1) := by decide +kernel
theorem dX3_coursesWithPlace_2 : decode cX3_coursesWithPlace 2 = .ok (.aload_n 0, 1) := by decide +kernel
theorem dX3_coursesWithPlace_3 : decode cX3_coursesWithPlace 3 = .ok (.getfield 11, 3) := by decide +kernel
theorem dX3_coursesWithPlace_6 : decode cX3_coursesWithPlace 6 = .ok (.astore_n 2, 1) := by decide +kernel
theorem dX3_coursesWithPlace_7 : decode cX3_coursesWithPlace 7 = .ok (.aload_n 2, 1) := by decide +kernel
theorem dX3_coursesWithPlace_8 : decode cX3_coursesWithPlace 8 = .ok (.arraylength, 1) := by decide +kernel
theorem dX3_coursesWithPlace_9 : decode cX3_coursesWithPlace 9 = .ok (.istore_n 3, 1) := by decide +kernel
theorem dX3_coursesWithPlace_10 : decode cX3_coursesWithPlace 10 = .ok (.iconst 0, 1) := by decide +kernel
theorem dX3_coursesWithPlace_11 : decode cX3_coursesWithPlace 11 = .ok (.istore 4, 2) := by decide +kernel
theorem dX3_coursesWithPlace_13 : decode cX3_coursesWithPlace 13 = .ok (.iload 4, 2) := by decide +kernel
theorem dX3_coursesWithPlace_15 : decode cX3_coursesWithPlace 15 = .ok (.iload_n 3, 1) := by decide +kernel
theorem dX3_coursesWithPlace_16 : decode cX3_coursesWithPlace 16 = .ok (.if_icmp .ge 38, 3) := by decide +kernel
theorem dX3_coursesWithPlace_19 : decode cX3_coursesWithPlace 19 = .ok (.aload_n 2, 1) := by decide +kernel
theorem dX3_coursesWithPlace_20 : decode cX3_coursesWithPlace 20 = .ok (.iload 4, 2) := by decide +kernel
theorem dX3_coursesWithPlace_22 : decode cX3_coursesWithPlace 22 = .ok (.aaload, 1) := by decide +kernel
theorem dX3_coursesWithPlace_23 : decode cX3_coursesWithPlace 23 = .ok (.astore 5, 2) := by decide +kernel
theorem dX3_coursesWithPlace_25 : decode cX3_coursesWithPlace 25 = .ok (.aload 5, 2) := by decide +kernel
theorem dX3_coursesWithPlace_27 : decode cX3_coursesWithPlace 27 = .ok (.ifnull 21, 3) := by decide +kernel
theorem dX3_coursesWithPlace_30 : decode cX3_coursesWithPlace 30 = .ok (.aload 5, 2) := by decide +kernel
theorem dX3_coursesWithPlace_32 : decode cX3_coursesWithPlace 32 = .ok (.invokevirtual 185, 3) := by decide +kernel
theorem dX3_coursesWithPlace_35 : decode cX3_coursesWithPlace 35 = .ok (.ifCond .eq 13, 3) := by decide +kernel
theorem dX3_coursesWithPlace_38 : decode cX3_coursesWithPlace 38 = .ok (.iload_n 1, 1) := by decide +kernel
theorem dX3_coursesWithPlace_39 : decode cX3_coursesWithPlace 39 = .ok (.iconst 1, 1) := by decide +kernel
theorem dX3_coursesWithPlace_40 : decode cX3_coursesWithPlace 40 = .ok (.aload 5, 2) := by decide +kernel
theorem dX3_coursesWithPlace_42 : decode cX3_coursesWithPlace 42 = .ok (.getfield 96, 3) := by decide +kernel
theorem dX3_coursesWithPlace_45 : decode cX3_coursesWithPlace 45 = .ok (.ishl, 1) := by decide +kernel
theorem dX3_coursesWithPlace_46 : decode cX3_coursesWithPlace 46 = .ok (.ior, 1) := by decide +kernel
theorem dX3_coursesWithPlace_47 : decode cX3_coursesWithPlace 47 = .ok (.istore_n 1, 1) := by decide +kernel
theorem dX3_coursesWithPlace_48 : decode cX3_coursesWithPlace 48 = .ok (.iinc 4 1, 3) := by decide +kernel
theorem dX3_coursesWithPlace_51 : decode cX3_coursesWithPlace 51 = .ok (.goto (-38), 3) := by decide +kernel
theorem dX3_coursesWithPlace_54 : decode cX3_coursesWithPlace 54 = .ok (.iload_n 1, 1) := by decide +kernel
theorem dX3_coursesWithPlace_55 : decode cX3_coursesWithPlace 55 = .ok (.ireturn, 1) := by decide +kernel
theorem dX3_howManyWait_0 : decode cX3_howManyWait 0 = .ok (.iconst 0, 1) := by decide +kernel
theorem dX3_howManyWait_1 : decode cX3_howManyWait 1 = .ok (.istore_n 2, 1) := by decide +kernel
theorem dX3_howManyWait_2 : decode cX3_howManyWait 2 = .ok (.aload_n 0, 1) := by decide +kernel
theorem dX3_howManyWait_3 : decode cX3_howManyWait 3 = .ok (.getfield 19, 3) := by decide +kernel
theorem dX3_howManyWait_6 : decode cX3_howManyWait 6 = .ok (.astore_n 3, 1) := by decide +kernel
theorem dX3_howManyWait_7 : decode cX3_howManyWait 7 = .ok (.aload_n 3, 1) := by decide +kernel
theorem dX3_howManyWait_8 : decode cX3_howManyWait 8 = .ok (.arraylength, 1) := by decide +kernel
theorem dX3_howManyWait_9 : decode cX3_howManyWait 9 = .ok (.istore 4, 2) := by decide +kernel
theorem dX3_howManyWait_11 : decode cX3_howManyWait 11 = .ok (.iconst 0, 1) := by decide +kernel
theorem dX3_howManyWait_12 : decode cX3_howManyWait 12 = .ok (.istore 5, 2) := by decide +kernel
theorem dX3_howManyWait_14 : decode cX3_howManyWait 14 = .ok (.iload 5, 2) := by decide +kernel
theorem dX3_howManyWait_16 : decode cX3_howManyWait 16 = .ok (.iload 4, 2) := by decide +kernel
theorem dX3_howManyWait_18 : decode cX3_howManyWait 18 = .ok (.if_icmp .ge 32, 3) := by decide +kernel
theorem dX3_howManyWait_21 : decode cX3_howManyWait 21 = .ok (.aload_n 3, 1) := by decide +kernel
theorem dX3_howManyWait_22 : decode cX3_howManyWait 22 = .ok (.iload 5, 2) := by decide +kernel
theorem dX3_howManyWait_24 : decode cX3_howManyWait 24 = .ok (.aaload, 1) := by decide +kernel
theorem dX3_howManyWait_25 : decode cX3_howManyWait 25 = .ok (.astore 6, 2) := by decide +kernel
theorem dX3_howManyWait_27 : decode cX3_howManyWait 27 = .ok (.aload 6, 2) := by decide +kernel
theorem dX3_howManyWait_29 : decode cX3_howManyWait 29 = .ok (.ifnull 15, 3) := by decide +kernel
theorem dX3_howManyWait_32 : decode cX3_howManyWait 32 = .ok (.aload 6, 2) := by decide +kernel
theorem dX3_howManyWait_34 : decode cX3_howManyWait 34 = .ok (.iload_n 1, 1) := by decide +kernel
theorem dX3_howManyWait_35 : decode cX3_howManyWait 35 = .ok (.invokevirtual 246, 3) := by decide +kernel
theorem dX3_howManyWait_38 : decode cX3_howManyWait 38 = .ok (.ifCond .eq 6, 3) := by decide +kernel
theorem dX3_howManyWait_41 : decode cX3_howManyWait 41 = .ok (.iinc 2 1, 3) := by decide +kernel
theorem dX3_howManyWait_44 : decode cX3_howManyWait 44 = .ok (.iinc 5 1, 3) := by decide +kernel
theorem dX3_howManyWait_47 : decode cX3_howManyWait 47 = .ok (.goto (-33), 3) := by decide +kernel
theorem dX3_howManyWait_50 : decode cX3_howManyWait 50 = .ok (.iload_n 2, 1) := by decide +kernel
theorem dX3_howManyWait_51 : decode cX3_howManyWait 51 = .ok (.ireturn, 1) := by decide +kernel
theorem dX3_waiterAt_0 : decode cX3_waiterAt 0 = .ok (.iconst 0, 1) := by decide +kernel
theorem dX3_waiterAt_1 : decode cX3_waiterAt 1 = .ok (.istore_n 3, 1) := by decide +kernel
theorem dX3_waiterAt_2 : decode cX3_waiterAt 2 = .ok (.aload_n 0, 1) := by decide +kernel
theorem dX3_waiterAt_3 : decode cX3_waiterAt 3 = .ok (.getfield 19, 3) := by decide +kernel
theorem dX3_waiterAt_6 : decode cX3_waiterAt 6 = .ok (.astore 4, 2) := by decide +kernel
theorem dX3_waiterAt_8 : decode cX3_waiterAt 8 = .ok (.aload 4, 2) := by decide +kernel
theorem dX3_waiterAt_10 : decode cX3_waiterAt 10 = .ok (.arraylength, 1) := by decide +kernel
theorem dX3_waiterAt_11 : decode cX3_waiterAt 11 = .ok (.istore 5, 2) := by decide +kernel
theorem dX3_waiterAt_13 : decode cX3_waiterAt 13 = .ok (.iconst 0, 1) := by decide +kernel
theorem dX3_waiterAt_14 : decode cX3_waiterAt 14 = .ok (.istore 6, 2) := by decide +kernel
theorem dX3_waiterAt_16 : decode cX3_waiterAt 16 = .ok (.iload 6, 2) := by decide +kernel
theorem dX3_waiterAt_18 : decode cX3_waiterAt 18 = .ok (.iload 5, 2) := by decide +kernel
theorem dX3_waiterAt_20 : decode cX3_waiterAt 20 = .ok (.if_icmp .ge 44, 3) := by decide +kernel
theorem dX3_waiterAt_23 : decode cX3_waiterAt 23 = .ok (.aload 4, 2) := by decide +kernel
theorem dX3_waiterAt_25 : decode cX3_waiterAt 25 = .ok (.iload 6, 2) := by decide +kernel
theorem dX3_waiterAt_27 : decode cX3_waiterAt 27 = .ok (.aaload, 1) := by decide +kernel
theorem dX3_waiterAt_28 : decode cX3_waiterAt 28 = .ok (.astore 7, 2) := by decide +kernel
theorem dX3_waiterAt_30 : decode cX3_waiterAt 30 = .ok (.aload 7, 2) := by decide +kernel
theorem dX3_waiterAt_32 : decode cX3_waiterAt 32 = .ok (.ifnull 26, 3) := by decide +kernel
theorem dX3_waiterAt_35 : decode cX3_waiterAt 35 = .ok (.aload 7, 2) := by decide +kernel
theorem dX3_waiterAt_37 : decode cX3_waiterAt 37 = .ok (.iload_n 1, 1) := by decide +kernel
theorem dX3_waiterAt_38 : decode cX3_waiterAt 38 = .ok (.invokevirtual 246, 3) := by decide +kernel
theorem dX3_waiterAt_41 : decode cX3_waiterAt 41 = .ok (.ifCond .eq 17, 3) := by decide +kernel
theorem dX3_waiterAt_44 : decode cX3_waiterAt 44 = .ok (.iload_n 3, 1) := by decide +kernel
theorem dX3_waiterAt_45 : decode cX3_waiterAt 45 = .ok (.iload_n 2, 1) := by decide +kernel
theorem dX3_waiterAt_46 : decode cX3_waiterAt 46 = .ok (.if_icmp .ne 9, 3) := by decide +kernel
theorem dX3_waiterAt_49 : decode cX3_waiterAt 49 = .ok (.aload 7, 2) := by decide +kernel
theorem dX3_waiterAt_51 : decode cX3_waiterAt 51 = .ok (.getfield 110, 3) := by decide +kernel
theorem dX3_waiterAt_54 : decode cX3_waiterAt 54 = .ok (.ireturn, 1) := by decide +kernel
theorem dX3_waiterAt_55 : decode cX3_waiterAt 55 = .ok (.iinc 3 1, 3) := by decide +kernel
theorem dX3_waiterAt_58 : decode cX3_waiterAt 58 = .ok (.iinc 6 1, 3) := by decide +kernel
theorem dX3_waiterAt_61 : decode cX3_waiterAt 61 = .ok (.goto (-45), 3) := by decide +kernel
theorem dX3_waiterAt_64 : decode cX3_waiterAt 64 = .ok (.iconst (-1), 1) := by decide +kernel
theorem dX3_waiterAt_65 : decode cX3_waiterAt 65 = .ok (.ireturn, 1) := by decide +kernel
theorem dX3_peopleHere_0 : decode cX3_peopleHere 0 = .ok (.iconst 0, 1) := by decide +kernel
theorem dX3_peopleHere_1 : decode cX3_peopleHere 1 = .ok (.istore_n 1, 1) := by decide +kernel
theorem dX3_peopleHere_2 : decode cX3_peopleHere 2 = .ok (.aload_n 0, 1) := by decide +kernel
theorem dX3_peopleHere_3 : decode cX3_peopleHere 3 = .ok (.getfield 19, 3) := by decide +kernel
theorem dX3_peopleHere_6 : decode cX3_peopleHere 6 = .ok (.astore_n 2, 1) := by decide +kernel
theorem dX3_peopleHere_7 : decode cX3_peopleHere 7 = .ok (.aload_n 2, 1) := by decide +kernel
theorem dX3_peopleHere_8 : decode cX3_peopleHere 8 = .ok (.arraylength, 1) := by decide +kernel
theorem dX3_peopleHere_9 : decode cX3_peopleHere 9 = .ok (.istore_n 3, 1) := by decide +kernel
theorem dX3_peopleHere_10 : decode cX3_peopleHere 10 = .ok (.iconst 0, 1) := by decide +kernel
theorem dX3_peopleHere_11 : decode cX3_peopleHere 11 = .ok (.istore 4, 2) := by decide +kernel
theorem dX3_peopleHere_13 : decode cX3_peopleHere 13 = .ok (.iload 4, 2) := by decide +kernel
theorem dX3_peopleHere_15 : decode cX3_peopleHere 15 = .ok (.iload_n 3, 1) := by decide +kernel
theorem dX3_peopleHere_16 : decode cX3_peopleHere 16 = .ok (.if_icmp .ge 31, 3) := by decide +kernel
theorem dX3_peopleHere_19 : decode cX3_peopleHere 19 = .ok (.aload_n 2, 1) := by decide +kernel
theorem dX3_peopleHere_20 : decode cX3_peopleHere 20 = .ok (.iload 4, 2) := by decide +kernel
theorem dX3_peopleHere_22 : decode cX3_peopleHere 22 = .ok (.aaload, 1) := by decide +kernel
theorem dX3_peopleHere_23 : decode cX3_peopleHere 23 = .ok (.astore 5, 2) := by decide +kernel
theorem dX3_peopleHere_25 : decode cX3_peopleHere 25 = .ok (.aload 5, 2) := by decide +kernel
theorem dX3_peopleHere_27 : decode cX3_peopleHere 27 = .ok (.ifnull 14, 3) := by decide +kernel
theorem dX3_peopleHere_30 : decode cX3_peopleHere 30 = .ok (.aload 5, 2) := by decide +kernel
theorem dX3_peopleHere_32 : decode cX3_peopleHere 32 = .ok (.getfield 104, 3) := by decide +kernel
theorem dX3_peopleHere_35 : decode cX3_peopleHere 35 = .ok (.ifCond .eq 6, 3) := by decide +kernel
theorem dX3_peopleHere_38 : decode cX3_peopleHere 38 = .ok (.iinc 1 1, 3) := by decide +kernel
theorem dX3_peopleHere_41 : decode cX3_peopleHere 41 = .ok (.iinc 4 1, 3) := by decide +kernel
theorem dX3_peopleHere_44 : decode cX3_peopleHere 44 = .ok (.goto (-31), 3) := by decide +kernel
theorem dX3_peopleHere_47 : decode cX3_peopleHere 47 = .ok (.iload_n 1, 1) := by decide +kernel
theorem dX3_peopleHere_48 : decode cX3_peopleHere 48 = .ok (.ireturn, 1) := by decide +kernel
theorem dX3_peopleInClasses_0 : decode cX3_peopleInClasses 0 = .ok (.iconst 0, 1) := by decide +kernel
theorem dX3_peopleInClasses_1 : decode cX3_peopleInClasses 1 = .ok (.istore_n 1, 1) := by decide +kernel
theorem dX3_peopleInClasses_2 : decode cX3_peopleInClasses 2 = .ok (.aload_n 0, 1) := by decide +kernel
theorem dX3_peopleInClasses_3 : decode cX3_peopleInClasses 3 = .ok (.getfield 19, 3) := by decide +kernel
theorem dX3_peopleInClasses_6 : decode cX3_peopleInClasses 6 = .ok (.astore_n 2, 1) := by decide +kernel
theorem dX3_peopleInClasses_7 : decode cX3_peopleInClasses 7 = .ok (.aload_n 2, 1) := by decide +kernel
theorem dX3_peopleInClasses_8 : decode cX3_peopleInClasses 8 = .ok (.arraylength, 1) := by decide +kernel
theorem dX3_peopleInClasses_9 : decode cX3_peopleInClasses 9 = .ok (.istore_n 3, 1) := by decide +kernel
theorem dX3_peopleInClasses_10 : decode cX3_peopleInClasses 10 = .ok (.iconst 0, 1) := by decide +kernel
theorem dX3_peopleInClasses_11 : decode cX3_peopleInClasses 11 = .ok (.istore 4, 2) := by decide +kernel
theorem dX3_peopleInClasses_13 : decode cX3_peopleInClasses 13 = .ok (.iload 4, 2) := by decide +kernel
theorem dX3_peopleInClasses_15 : decode cX3_peopleInClasses 15 = .ok (.iload_n 3, 1) := by decide +kernel
theorem dX3_peopleInClasses_16 : decode cX3_peopleInClasses 16 = .ok (.if_icmp .ge 32, 3) := by decide +kernel
theorem dX3_peopleInClasses_19 : decode cX3_peopleInClasses 19 = .ok (.aload_n 2, 1) := by decide +kernel
theorem dX3_peopleInClasses_20 : decode cX3_peopleInClasses 20 = .ok (.iload 4, 2) := by decide +kernel
theorem dX3_peopleInClasses_22 : decode cX3_peopleInClasses 22 = .ok (.aaload, 1) := by decide +kernel
theorem dX3_peopleInClasses_23 : decode cX3_peopleInClasses 23 = .ok (.astore 5, 2) := by decide +kernel
theorem dX3_peopleInClasses_25 : decode cX3_peopleInClasses 25 = .ok (.aload 5, 2) := by decide +kernel
theorem dX3_peopleInClasses_27 : decode cX3_peopleInClasses 27 = .ok (.ifnull 15, 3) := by decide +kernel
theorem dX3_peopleInClasses_30 : decode cX3_peopleInClasses 30 = .ok (.aload 5, 2) := by decide +kernel
theorem dX3_peopleInClasses_32 : decode cX3_peopleInClasses 32 = .ok (.getfield 182, 3) := by decide +kernel
theorem dX3_peopleInClasses_35 : decode cX3_peopleInClasses 35 = .ok (.iconst (-1), 1) := by decide +kernel
theorem dX3_peopleInClasses_36 : decode cX3_peopleInClasses 36 = .ok (.if_icmp .eq 6, 3) := by decide +kernel
theorem dX3_peopleInClasses_39 : decode cX3_peopleInClasses 39 = .ok (.iinc 1 1, 3) := by decide +kernel
theorem dX3_peopleInClasses_42 : decode cX3_peopleInClasses 42 = .ok (.iinc 4 1, 3) := by decide +kernel
theorem dX3_peopleInClasses_45 : decode cX3_peopleInClasses 45 = .ok (.goto (-32), 3) := by decide +kernel
theorem dX3_peopleInClasses_48 : decode cX3_peopleInClasses 48 = .ok (.iload_n 1, 1) := by decide +kernel
theorem dX3_peopleInClasses_49 : decode cX3_peopleInClasses 49 = .ok (.ireturn, 1) := by decide +kernel
theorem dX3_ranksTogether_0 : decode cX3_ranksTogether 0 = .ok (.iconst 0, 1) := by decide +kernel
theorem dX3_ranksTogether_1 : decode cX3_ranksTogether 1 = .ok (.istore_n 1, 1) := by decide +kernel
theorem dX3_ranksTogether_2 : decode cX3_ranksTogether 2 = .ok (.aload_n 0, 1) := by decide +kernel
theorem dX3_ranksTogether_3 : decode cX3_ranksTogether 3 = .ok (.getfield 19, 3) := by decide +kernel
theorem dX3_ranksTogether_6 : decode cX3_ranksTogether 6 = .ok (.astore_n 2, 1) := by decide +kernel
theorem dX3_ranksTogether_7 : decode cX3_ranksTogether 7 = .ok (.aload_n 2, 1) := by decide +kernel
theorem dX3_ranksTogether_8 : decode cX3_ranksTogether 8 = .ok (.arraylength, 1) := by decide +kernel
theorem dX3_ranksTogether_9 : decode cX3_ranksTogether 9 = .ok (.istore_n 3, 1) := by decide +kernel
theorem dX3_ranksTogether_10 : decode cX3_ranksTogether 10 = .ok (.iconst 0, 1) := by decide +kernel
theorem dX3_ranksTogether_11 : decode cX3_ranksTogether 11 = .ok (.istore 4, 2) := by decide +kernel
theorem dX3_ranksTogether_13 : decode cX3_ranksTogether 13 = .ok (.iload 4, 2) := by decide +kernel
theorem dX3_ranksTogether_15 : decode cX3_ranksTogether 15 = .ok (.iload_n 3, 1) := by decide +kernel
theorem dX3_ranksTogether_16 : decode cX3_ranksTogether 16 = .ok (.if_icmp .ge 36, 3) := by decide +kernel
theorem dX3_ranksTogether_19 : decode cX3_ranksTogether 19 = .ok (.aload_n 2, 1) := by decide +kernel
theorem dX3_ranksTogether_20 : decode cX3_ranksTogether 20 = .ok (.iload 4, 2) := by decide +kernel
theorem dX3_ranksTogether_22 : decode cX3_ranksTogether 22 = .ok (.aaload, 1) := by decide +kernel
theorem dX3_ranksTogether_23 : decode cX3_ranksTogether 23 = .ok (.astore 5, 2) := by decide +kernel
theorem dX3_ranksTogether_25 : decode cX3_ranksTogether 25 = .ok (.aload 5, 2) := by decide +kernel
theorem dX3_ranksTogether_27 : decode cX3_ranksTogether 27 = .ok (.ifnull 19, 3) := by decide +kernel
theorem dX3_ranksTogether_30 : decode cX3_ranksTogether 30 = .ok (.aload 5, 2) := by decide +kernel
theorem dX3_ranksTogether_32 : decode cX3_ranksTogether 32 = .ok (.getfield 104, 3) := by decide +kernel
theorem dX3_ranksTogether_35 : decode cX3_ranksTogether 35 = .ok (.ifCond .eq 11, 3) := by decide +kernel
theorem dX3_ranksTogether_38 : decode cX3_ranksTogether 38 = .ok (.iload_n 1, 1) := by decide +kernel
theorem dX3_ranksTogether_39 : decode cX3_ranksTogether 39 = .ok (.aload 5, 2) := by decide +kernel
theorem dX3_ranksTogether_41 : decode cX3_ranksTogether 41 = .ok (.invokevirtual 115, 3) := by decide +kernel
theorem dX3_ranksTogether_44 : decode cX3_ranksTogether 44 = .ok (.iadd, 1) := by decide +kernel
theorem dX3_ranksTogether_45 : decode cX3_ranksTogether 45 = .ok (.istore_n 1, 1) := by decide +kernel
theorem dX3_ranksTogether_46 : decode cX3_ranksTogether 46 = .ok (.iinc 4 1, 3) := by decide +kernel
theorem dX3_ranksTogether_49 : decode cX3_ranksTogether 49 = .ok (.goto (-36), 3) := by decide +kernel
theorem dX3_ranksTogether_52 : decode cX3_ranksTogether 52 = .ok (.iload_n 1, 1) := by decide +kernel
theorem dX3_ranksTogether_53 : decode cX3_ranksTogether 53 = .ok (.ireturn, 1) := by decide +kernel
theorem dX3_paidForClasses_0 : decode cX3_paidForClasses 0 = .ok (.iconst 0, 1) := by decide +kernel
theorem dX3_paidForClasses_1 : decode cX3_paidForClasses 1 = .ok (.istore_n 1, 1) := by decide +kernel
theorem dX3_paidForClasses_2 : decode cX3_paidForClasses 2 = .ok (.aload_n 0, 1) := by decide +kernel
theorem dX3_paidForClasses_3 : decode cX3_paidForClasses 3 = .ok (.getfield 19, 3) := by decide +kernel
theorem dX3_paidForClasses_6 : decode cX3_paidForClasses 6 = .ok (.astore_n 2, 1) := by decide +kernel
theorem dX3_paidForClasses_7 : decode cX3_paidForClasses 7 = .ok (.aload_n 2, 1) := by decide +kernel
theorem dX3_paidForClasses_8 : decode cX3_paidForClasses 8 = .ok (.arraylength, 1) := by decide +kernel
theorem dX3_paidForClasses_9 : decode cX3_paidForClasses 9 = .ok (.istore_n 3, 1) := by decide +kernel
theorem dX3_paidForClasses_10 : decode cX3_paidForClasses 10 = .ok (.iconst 0, 1) := by decide +kernel
theorem dX3_paidForClasses_11 : decode cX3_paidForClasses 11 = .ok (.istore 4, 2) := by decide +kernel
theorem dX3_paidForClasses_13 : decode cX3_paidForClasses 13 = .ok (.iload 4, 2) := by decide +kernel
theorem dX3_paidForClasses_15 : decode cX3_paidForClasses 15 = .ok (.iload_n 3, 1) := by decide +kernel
theorem dX3_paidForClasses_16 : decode cX3_paidForClasses 16 = .ok (.if_icmp .ge 28, 3) := by decide +kernel
theorem dX3_paidForClasses_19 : decode cX3_paidForClasses 19 = .ok (.aload_n 2, 1) := by decide +kernel
theorem dX3_paidForClasses_20 : decode cX3_paidForClasses 20 = .ok (.iload 4, 2) := by decide +kernel
theorem dX3_paidForClasses_22 : decode cX3_paidForClasses 22 = .ok (.aaload, 1) := by decide +kernel
theorem dX3_paidForClasses_23 : decode cX3_paidForClasses 23 = .ok (.astore 5, 2) := by decide +kernel
theorem dX3_paidForClasses_25 : decode cX3_paidForClasses 25 = .ok (.aload 5, 2) := by decide +kernel
theorem dX3_paidForClasses_27 : decode cX3_paidForClasses 27 = .ok (.ifnull 11, 3) := by decide +kernel
theorem dX3_paidForClasses_30 : decode cX3_paidForClasses 30 = .ok (.iload_n 1, 1) := by decide +kernel
theorem dX3_paidForClasses_31 : decode cX3_paidForClasses 31 = .ok (.aload 5, 2) := by decide +kernel
theorem dX3_paidForClasses_33 : decode cX3_paidForClasses 33 = .ok (.getfield 119, 3) := by decide +kernel
theorem dX3_paidForClasses_36 : decode cX3_paidForClasses 36 = .ok (.iadd, 1) := by decide +kernel
theorem dX3_paidForClasses_37 : decode cX3_paidForClasses 37 = .ok (.istore_n 1, 1) := by decide +kernel
theorem dX3_paidForClasses_38 : decode cX3_paidForClasses 38 = .ok (.iinc 4 1, 3) := by decide +kernel
theorem dX3_paidForClasses_41 : decode cX3_paidForClasses 41 = .ok (.goto (-28), 3) := by decide +kernel
theorem dX3_paidForClasses_44 : decode cX3_paidForClasses 44 = .ok (.iload_n 1, 1) := by decide +kernel
theorem dX3_paidForClasses_45 : decode cX3_paidForClasses 45 = .ok (.ireturn, 1) := by decide +kernel
theorem dX4_init_0 : decode cX4_init 0 = .ok (.aload_n 0, 1) := by decide +kernel
theorem dX4_init_1 : decode cX4_init 1 = .ok (.invokespecial 3, 3) := by decide +kernel
theorem dX4_init_4 : decode cX4_init 4 = .ok (.aload_n 0, 1) := by decide +kernel
theorem dX4_init_5 : decode cX4_init 5 = .ok (.bipush 60, 2) := by decide +kernel
theorem dX4_init_7 : decode cX4_init 7 = .ok (.newarray .char, 2) := by decide +kernel
theorem dX4_init_9 : decode cX4_init 9 = .ok (.putfield 9, 3) := by decide +kernel
theorem dX4_init_12 : decode cX4_init 12 = .ok (.aload_n 0, 1) := by decide +kernel
theorem dX4_init_13 : decode cX4_init 13 = .ok (.iconst 4, 1) := by decide +kernel
theorem dX4_init_14 : decode cX4_init 14 = .ok (.newarray .int, 2) := by decide +kernel
theorem dX4_init_16 : decode cX4_init 16 = .ok (.putfield 15, 3) := by decide +kernel
theorem dX4_init_19 : decode cX4_init 19 = .ok (.return_, 1) := by decide +kernel
theorem dX4_append_0 : decode cX4_append 0 = .ok (.aload_n 0, 1) := by decide +kernel
theorem dX4_append_1 : decode cX4_append 1 = .ok (.getfield 19, 3) := by decide +kernel
theorem dX4_append_4 : decode cX4_append 4 = .ok (.iconst 0, 1) := by decide +kernel
theorem dX4_append_5 : decode cX4_append 5 = .ok (.aload_n 0, 1) := by decide +kernel
theorem dX4_append_6 : decode cX4_append 6 = .ok (.getfield 9, 3) := by decide +kernel
theorem dX4_append_9 : decode cX4_append 9 = .ok (.arraylength, 1) := by decide +kernel
theorem dX4_append_10 : decode cX4_append 10 = .ok (.iconst 1, 1) := by decide +kernel
theorem dX4_append_11 : decode cX4_append 11 = .ok (.isub, 1) := by decide +kernel
theorem dX4_append_12 : decode cX4_append 12 = .ok (.invokestatic 23, 3) := by decide +kernel
theorem dX4_append_15 : decode cX4_append 15 = .ok (.ifCond .eq 6, 3) := by decide +kernel
theorem dX4_append_18 : decode cX4_append 18 = .ok (.ldc 27, 2) := by decide +kernel
theorem dX4_append_20 : decode cX4_append 20 = .ok (.ireturn, 1) := by decide +kernel
theorem dX4_append_21 : decode cX4_append 21 = .ok (.aload_n 0, 1) := by decide +kernel
theorem dX4_append_22 : decode cX4_append 22 = .ok (.getfield 9, 3) := by decide +kernel
theorem dX4_append_25 : decode cX4_append 25 = .ok (.aload_n 0, 1) := by decide +kernel
theorem dX4_append_26 : decode cX4_append 26 = .ok (.getfield 19, 3) := by decide +kernel
theorem dX4_append_29 : decode cX4_append 29 = .ok (.iload_n 1, 1) := by decide +kernel
theorem dX4_append_30 : decode cX4_append 30 = .ok (.castore, 1) := by decide +kernel
theorem dX4_append_31 : decode cX4_append 31 = .ok (.aload_n 0, 1) := by decide +kernel
theorem dX4_append_32 : decode cX4_append 32 = .ok (.dup, 1) := by decide +kernel
theorem dX4_append_33 : decode cX4_append 33 = .ok (.getfield 19, 3) := by decide +kernel
theorem dX4_append_36 : decode cX4_append 36 = .ok (.iconst 1, 1) := by decide +kernel
theorem dX4_append_37 : decode cX4_append 37 = .ok (.iadd, 1) := by decide +kernel
theorem dX4_append_38 : decode cX4_append 38 = .ok (.putfield 19, 3) := by decide +kernel
theorem dX4_append_41 : decode cX4_append 41 = .ok (.aload_n 0, 1) := by decide +kernel
theorem dX4_append_42 : decode cX4_append 42 = .ok (.getfield 19, 3) := by decide +kernel
theorem dX4_append_45 : decode cX4_append 45 = .ok (.ireturn, 1) := by decide +kernel
theorem dX4_playOn_0 : decode cX4_playOn 0 = .ok (.aload_n 0, 1) := by decide +kernel
theorem dX4_playOn_1 : decode cX4_playOn 1 = .ok (.iconst 0, 1) := by decide +kernel
theorem dX4_playOn_2 : decode cX4_playOn 2 = .ok (.putfield 28, 3) := by decide +kernel
theorem dX4_playOn_5 : decode cX4_playOn 5 = .ok (.aload_n 0, 1) := by decide +kernel
theorem dX4_playOn_6 : decode cX4_playOn 6 = .ok (.iconst 0, 1) := by decide +kernel
theorem dX4_playOn_7 : decode cX4_playOn 7 = .ok (.putfield 31, 3) := by decide +kernel
theorem dX4_playOn_10 : decode cX4_playOn 10 = .ok (.iconst 0, 1) := by decide +kernel
theorem dX4_playOn_11 : decode cX4_playOn 11 = .ok (.istore_n 2, 1) := by decide +kernel
theorem dX4_playOn_12 : decode cX4_playOn 12 = .ok (.iconst 0, 1) := by decide +kernel
theorem dX4_playOn_13 : decode cX4_playOn 13 = .ok (.istore_n 3, 1) := by decide +kernel
theorem dX4_playOn_14 : decode cX4_playOn 14 = .ok (.iload_n 3, 1) := by decide +kernel
theorem dX4_playOn_15 : decode cX4_playOn 15 = .ok (.bipush 60, 2) := by decide +kernel
theorem dX4_playOn_17 : decode cX4_playOn 17 = .ok (.if_icmp .ge 109, 3) := by decide +kernel
theorem dX4_playOn_20 : decode cX4_playOn 20 = .ok (.iload_n 2, 1) := by decide +kernel
theorem dX4_playOn_21 : decode cX4_playOn 21 = .ok (.aload_n 0, 1) := by decide +kernel
theorem dX4_playOn_22 : decode cX4_playOn 22 = .ok (.getfield 19, 3) := by decide +kernel
theorem dX4_playOn_25 : decode cX4_playOn 25 = .ok (.if_icmp .ge 101, 3) := by decide +kernel
theorem dX4_playOn_28 : decode cX4_playOn 28 = .ok (.aload_n 0, 1) := by decide +kernel
theorem dX4_playOn_29 : decode cX4_playOn 29 = .ok (.getfield 31, 3) := by decide +kernel
theorem dX4_playOn_32 : decode cX4_playOn 32 = .ok (.ifCond .ne 94, 3) := by decide +kernel
theorem dX4_playOn_35 : decode cX4_playOn 35 = .ok (.aload_n 0, 1) := by decide +kernel
theorem dX4_playOn_36 : decode cX4_playOn 36 = .ok (.iload_n 2, 1) := by decide +kernel
theorem dX4_playOn_37 : decode cX4_playOn 37 = .ok (.putfield 34, 3) := by decide +kernel
theorem dX4_playOn_40 : decode cX4_playOn 40 = .ok (.aload_n 0, 1) := by decide +kernel
theorem dX4_playOn_41 : decode cX4_playOn 41 = .ok (.iload_n 2, 1) := by decide +kernel
theorem dX4_playOn_42 : decode cX4_playOn 42 = .ok (.invokevirtual 37, 3) := by decide +kernel
theorem dX4_playOn_45 : decode cX4_playOn 45 = .ok (.astore 4, 2) := by decide +kernel
theorem dX4_playOn_47 : decode cX4_playOn 47 = .ok (.aload 4, 2) := by decide +kernel
theorem dX4_playOn_49 : decode cX4_playOn 49 = .ok (.ifnonnull 7, 3) := by decide +kernel
theorem dX4_playOn_52 : decode cX4_playOn 52 = .ok (.iconst (-1), 1) := by decide +kernel
theorem dX4_playOn_53 : decode cX4_playOn 53 = .ok (.goto 10, 3) := by decide +kernel
theorem dX4_playOn_56 : decode cX4_playOn 56 = .ok (.aload_n 0, 1) := by decide +kernel
theorem dX4_playOn_57 : decode cX4_playOn 57 = .ok (.aload 4, 2) := by decide +kernel
theorem dX4_playOn_59 : decode cX4_playOn 59 = .ok (.iload_n 2, 1) := by decide +kernel
theorem dX4_playOn_60 : decode cX4_playOn 60 = .ok (.invokevirtual 41, 3) := by decide +kernel
theorem dX4_playOn_63 : decode cX4_playOn 63 = .ok (.istore 5, 2) := by decide +kernel
theorem dX4_playOn_65 : decode cX4_playOn 65 = .ok (.iload 5, 2) := by decide +kernel
theorem dX4_playOn_67 : decode cX4_playOn 67 = .ok (.iconst (-1), 1) := by decide +kernel
theorem dX4_playOn_68 : decode cX4_playOn 68 = .ok (.if_icmp .ne 11, 3) := by decide +kernel
theorem dX4_playOn_71 : decode cX4_playOn 71 = .ok (.aload_n 0, 1) := by decide +kernel
theorem dX4_playOn_72 : decode cX4_playOn 72 = .ok (.iconst 1, 1) := by decide +kernel
theorem dX4_playOn_73 : decode cX4_playOn 73 = .ok (.putfield 31, 3) := by decide +kernel
theorem dX4_playOn_76 : decode cX4_playOn 76 = .ok (.goto 44, 3) := by decide +kernel
theorem dX4_playOn_79 : decode cX4_playOn 79 = .ok (.aload_n 0, 1) := by decide +kernel
theorem dX4_playOn_80 : decode cX4_playOn 80 = .ok (.aload 4, 2) := by decide +kernel
theorem dX4_playOn_82 : decode cX4_playOn 82 = .ok (.aload_n 1, 1) := by decide +kernel
theorem dX4_playOn_83 : decode cX4_playOn 83 = .ok (.invokevirtual 45, 3) := by decide +kernel
theorem dX4_playOn_86 : decode cX4_playOn 86 = .ok (.istore 6, 2) := by decide +kernel
theorem dX4_playOn_88 : decode cX4_playOn 88 = .ok (.iload 6, 2) := by decide +kernel
theorem dX4_playOn_90 : decode cX4_playOn 90 = .ok (.ifCond .ge 17, 3) := by decide +kernel
theorem dX4_playOn_93 : decode cX4_playOn 93 = .ok (.aload_n 0, 1) := by decide +kernel
theorem dX4_playOn_94 : decode cX4_playOn 94 = .ok (.iconst 2, 1) := by decide +kernel
theorem dX4_playOn_95 : decode cX4_playOn 95 = .ok (.putfield 31, 3) := by decide +kernel
theorem dX4_playOn_98 : decode cX4_playOn 98 = .ok (.aload_n 0, 1) := by decide +kernel
theorem dX4_playOn_99 : decode cX4_playOn 99 = .ok (.iload 6, 2) := by decide +kernel
theorem dX4_playOn_101 : decode cX4_playOn 101 = .ok (.putfield 49, 3) := by decide +kernel
theorem dX4_playOn_104 : decode cX4_playOn 104 = .ok (.goto 16, 3) := by decide +kernel
theorem dX4_playOn_107 : decode cX4_playOn 107 = .ok (.aload_n 0, 1) := by decide +kernel
theorem dX4_playOn_108 : decode cX4_playOn 108 = .ok (.dup, 1) := by decide +kernel
theorem dX4_playOn_109 : decode cX4_playOn 109 = .ok (.getfield 28, 3) := by decide +kernel
theorem dX4_playOn_112 : decode cX4_playOn 112 = .ok (.iconst 1, 1) := by decide +kernel
theorem dX4_playOn_113 : decode cX4_playOn 113 = .ok (.iadd, 1) := by decide +kernel
theorem dX4_playOn_114 : decode cX4_playOn 114 = .ok (.putfield 28, 3) := by decide +kernel
theorem dX4_playOn_117 : decode cX4_playOn 117 = .ok (.iload 5, 2) := by decide +kernel
theorem dX4_playOn_119 : decode cX4_playOn 119 = .ok (.istore_n 2, 1) := by decide +kernel
theorem dX4_playOn_120 : decode cX4_playOn 120 = .ok (.iinc 3 1, 3) := by decide +kernel
theorem dX4_playOn_123 : decode cX4_playOn 123 = .ok (.goto (-109), 3) := by decide +kernel
theorem dX4_playOn_126 : decode cX4_playOn 126 = .ok (.return_, 1) := by decide +kernel
theorem dX4_answerTo_0 : decode cX4_answerTo 0 = .ok (.aload_n 1, 1) := by decide +kernel
theorem dX4_answerTo_1 : decode cX4_answerTo 1 = .ok (.getstatic 52, 3) := by decide +kernel
theorem dX4_answerTo_4 : decode cX4_answerTo 4 = .ok (.if_acmp .ne 23, 3) := by decide +kernel
theorem dX4_answerTo_7 : decode cX4_answerTo 7 = .ok (.aload_n 2, 1) := by decide +kernel
theorem dX4_answerTo_8 : decode cX4_answerTo 8 = .ok (.aload_n 0, 1) := by decide +kernel
theorem dX4_answerTo_9 : decode cX4_answerTo 9 = .ok (.iconst 0, 1) := by decide +kernel
theorem dX4_answerTo_10 : decode cX4_answerTo 10 = .ok (.invokevirtual 58, 3) := by decide +kernel
theorem dX4_answerTo_13 : decode cX4_answerTo 13 = .ok (.aload_n 0, 1) := by decide +kernel
theorem dX4_answerTo_14 : decode cX4_answerTo 14 = .ok (.iconst 1, 1) := by decide +kernel
theorem dX4_answerTo_15 : decode cX4_answerTo 15 = .ok (.invokevirtual 58, 3) := by decide +kernel
theorem dX4_answerTo_18 : decode cX4_answerTo 18 = .ok (.aload_n 0, 1) := by decide +kernel
theorem dX4_answerTo_19 : decode cX4_answerTo 19 = .ok (.iconst 2, 1) := by decide +kernel
theorem dX4_answerTo_20 : decode cX4_answerTo 20 = .ok (.invokevirtual 58, 3) := by decide +kernel
theorem dX4_answerTo_23 : decode cX4_answerTo 23 = .ok (.invokevirtual 62, 3) := by decide +kernel
theorem dX4_answerTo_26 : decode cX4_answerTo 26 = .ok (.ireturn, 1) := by decide +kernel
theorem dX4_answerTo_27 : decode cX4_answerTo 27 = .ok (.aload_n 1, 1) := by decide +kernel
theorem dX4_answerTo_28 : decode cX4_answerTo 28 = .ok (.getstatic 68, 3) := by decide +kernel
theorem dX4_answerTo_31 : decode cX4_answerTo 31 = .ok (.if_acmp .ne 28, 3) := by decide +kernel
theorem dX4_answerTo_34 : decode cX4_answerTo 34 = .ok (.aload_n 2, 1) := by decide +kernel
theorem dX4_answerTo_35 : decode cX4_answerTo 35 = .ok (.aload_n 0, 1) := by decide +kernel
theorem dX4_answerTo_36 : decode cX4_answerTo 36 = .ok (.iconst 0, 1) := by decide +kernel
theorem dX4_answerTo_37 : decode cX4_answerTo 37 = .ok (.invokevirtual 58, 3) := by decide +kernel
theorem dX4_answerTo_40 : decode cX4_answerTo 40 = .ok (.aload_n 0, 1) := by decide +kernel
theorem dX4_answerTo_41 : decode cX4_answerTo 41 = .ok (.iconst 1, 1) := by decide +kernel
theorem dX4_answerTo_42 : decode cX4_answerTo 42 = .ok (.invokevirtual 58, 3) := by decide +kernel
theorem dX4_answerTo_45 : decode cX4_answerTo 45 = .ok (.aload_n 0, 1) := by decide +kernel
theorem dX4_answerTo_46 : decode cX4_answerTo 46 = .ok (.iconst 2, 1) := by decide +kernel
theorem dX4_answerTo_47 : decode cX4_answerTo 47 = .ok (.invokevirtual 58, 3) := by decide +kernel
theorem dX4_answerTo_50 : decode cX4_answerTo 50 = .ok (.aload_n 0, 1) := by decide +kernel
theorem dX4_answerTo_51 : decode cX4_answerTo 51 = .ok (.iconst 3, 1) := by decide +kernel
theorem dX4_answerTo_52 : decode cX4_answerTo 52 = .ok (.invokevirtual 58, 3) := by decide +kernel
theorem dX4_answerTo_55 : decode cX4_answerTo 55 = .ok (.invokevirtual 71, 3) := by decide +kernel
theorem dX4_answerTo_58 : decode cX4_answerTo 58 = .ok (.ireturn, 1) := by decide +kernel
theorem dX4_answerTo_59 : decode cX4_answerTo 59 = .ok (.aload_n 1, 1) := by decide +kernel
theorem dX4_answerTo_60 : decode cX4_answerTo 60 = .ok (.getstatic 75, 3) := by decide +kernel
theorem dX4_answerTo_63 : decode cX4_answerTo 63 = .ok (.if_acmp .ne 13, 3) := by decide +kernel
theorem dX4_answerTo_66 : decode cX4_answerTo 66 = .ok (.aload_n 2, 1) := by decide +kernel
theorem dX4_answerTo_67 : decode cX4_answerTo 67 = .ok (.aload_n 0, 1) := by decide +kernel
theorem dX4_answerTo_68 : decode cX4_answerTo 68 = .ok (.iconst 0, 1) := by decide +kernel
theorem dX4_answerTo_69 : decode cX4_answerTo 69 = .ok (.invokevirtual 58, 3) := by decide +kernel
theorem dX4_answerTo_72 : decode cX4_answerTo 72 = .ok (.invokevirtual 78, 3) := by decide +kernel
theorem dX4_answerTo_75 : decode cX4_answerTo 75 = .ok (.ireturn, 1) := by decide +kernel
theorem dX4_answerTo_76 : decode cX4_answerTo 76 = .ok (.aload_n 1, 1) := by decide +kernel
theorem dX4_answerTo_77 : decode cX4_answerTo 77 = .ok (.getstatic 81, 3) := by decide +kernel
theorem dX4_answerTo_80 : decode cX4_answerTo 80 = .ok (.if_acmp .ne 10, 3) := by decide +kernel
theorem dX4_answerTo_83 : decode cX4_answerTo 83 = .ok (.aload_n 2, 1) := by decide +kernel
theorem dX4_answerTo_84 : decode cX4_answerTo 84 = .ok (.invokevirtual 84, 3) := by decide +kernel
theorem dX4_answerTo_87 : decode cX4_answerTo 87 = .ok (.goto 7, 3) := by decide +kernel
theorem dX4_answerTo_90 : decode cX4_answerTo 90 = .ok (.aload_n 2, 1) := by decide +kernel
theorem dX4_answerTo_91 : decode cX4_answerTo 91 = .ok (.invokevirtual 88, 3) := by decide +kernel
theorem dX4_answerTo_94 : decode cX4_answerTo 94 = .ok (.ireturn, 1) := by decide +kernel
theorem dX4_wordAt_0 : decode cX4_wordAt 0 = .ok (.iload_n 1, 1) := by decide +kernel
theorem dX4_wordAt_1 : decode cX4_wordAt 1 = .ok (.istore_n 2, 1) := by decide +kernel
theorem dX4_wordAt_2 : decode cX4_wordAt 2 = .ok (.iload_n 2, 1) := by decide +kernel
theorem dX4_wordAt_3 : decode cX4_wordAt 3 = .ok (.aload_n 0, 1) := by decide +kernel
theorem dX4_wordAt_4 : decode cX4_wordAt 4 = .ok (.getfield 19, 3) := by decide +kernel
theorem dX4_wordAt_7 : decode cX4_wordAt 7 = .ok (.if_icmp .ge 17, 3) := by decide +kernel
theorem dX4_wordAt_10 : decode cX4_wordAt 10 = .ok (.aload_n 0, 1) := by decide +kernel
theorem dX4_wordAt_11 : decode cX4_wordAt 11 = .ok (.iload_n 2, 1) := by decide +kernel
theorem dX4_wordAt_12 : decode cX4_wordAt 12 = .ok (.invokevirtual 91, 3) := by decide +kernel
theorem dX4_wordAt_15 : decode cX4_wordAt 15 = .ok (.ifCond .eq 9, 3) := by decide +kernel
theorem dX4_wordAt_18 : decode cX4_wordAt 18 = .ok (.iinc 2 1, 3) := by decide +kernel
theorem dX4_wordAt_21 : decode cX4_wordAt 21 = .ok (.goto (-19), 3) := by decide +kernel
theorem dX4_wordAt_24 : decode cX4_wordAt 24 = .ok (.aload_n 0, 1) := by decide +kernel
theorem dX4_wordAt_25 : decode cX4_wordAt 25 = .ok (.iload_n 2, 1) := by decide +kernel
theorem dX4_wordAt_26 : decode cX4_wordAt 26 = .ok (.aload_n 0, 1) := by decide +kernel
theorem dX4_wordAt_27 : decode cX4_wordAt 27 = .ok (.getfield 19, 3) := by decide +kernel
theorem dX4_wordAt_30 : decode cX4_wordAt 30 = .ok (.if_icmp .ge 7, 3) := by decide +kernel
theorem dX4_wordAt_33 : decode cX4_wordAt 33 = .ok (.iconst 0, 1) := by decide +kernel
theorem dX4_wordAt_34 : decode cX4_wordAt 34 = .ok (.goto 6, 3) := by decide +kernel
theorem dX4_wordAt_37 : decode cX4_wordAt 37 = .ok (.iload_n 2, 1) := by decide +kernel
theorem dX4_wordAt_38 : decode cX4_wordAt 38 = .ok (.iload_n 1, 1) := by decide +kernel
theorem dX4_wordAt_39 : decode cX4_wordAt 39 = .ok (.isub, 1) := by decide +kernel
theorem dX4_wordAt_40 : decode cX4_wordAt 40 = .ok (.putfield 49, 3) := by decide +kernel
theorem dX4_wordAt_43 : decode cX4_wordAt 43 = .ok (.iload_n 2, 1) := by decide +kernel
theorem dX4_wordAt_44 : decode cX4_wordAt 44 = .ok (.aload_n 0, 1) := by decide +kernel
theorem dX4_wordAt_45 : decode cX4_wordAt 45 = .ok (.getfield 19, 3) := by decide +kernel
theorem dX4_wordAt_48 : decode cX4_wordAt 48 = .ok (.if_icmp .lt 5, 3) := by decide +kernel
theorem dX4_wordAt_51 : decode cX4_wordAt 51 = .ok (.aconst_null, 1) := by decide +kernel
theorem dX4_wordAt_52 : decode cX4_wordAt 52 = .ok (.areturn, 1) := by decide +kernel
theorem dX4_wordAt_53 : decode cX4_wordAt 53 = .ok (.getstatic 95, 3) := by decide +kernel
theorem dX4_wordAt_56 : decode cX4_wordAt 56 = .ok (.astore_n 3, 1) := by decide +kernel
theorem dX4_wordAt_57 : decode cX4_wordAt 57 = .ok (.aload_n 3, 1) := by decide +kernel
theorem dX4_wordAt_58 : decode cX4_wordAt 58 = .ok (.arraylength, 1) := by decide +kernel
theorem dX4_wordAt_59 : decode cX4_wordAt 59 = .ok (.istore 4, 2) := by decide +kernel
theorem dX4_wordAt_61 : decode cX4_wordAt 61 = .ok (.iconst 0, 1) := by decide +kernel
theorem dX4_wordAt_62 : decode cX4_wordAt 62 = .ok (.istore 5, 2) := by decide +kernel
theorem dX4_wordAt_64 : decode cX4_wordAt 64 = .ok (.iload 5, 2) := by decide +kernel
theorem dX4_wordAt_66 : decode cX4_wordAt 66 = .ok (.iload 4, 2) := by decide +kernel
theorem dX4_wordAt_68 : decode cX4_wordAt 68 = .ok (.if_icmp .ge 37, 3) := by decide +kernel
theorem dX4_wordAt_71 : decode cX4_wordAt 71 = .ok (.aload_n 3, 1) := by decide +kernel
theorem dX4_wordAt_72 : decode cX4_wordAt 72 = .ok (.iload 5, 2) := by decide +kernel
theorem dX4_wordAt_74 : decode cX4_wordAt 74 = .ok (.aaload, 1) := by decide +kernel
theorem dX4_wordAt_75 : decode cX4_wordAt 75 = .ok (.astore 6, 2) := by decide +kernel
theorem dX4_wordAt_77 : decode cX4_wordAt 77 = .ok (.aload 6, 2) := by decide +kernel
theorem dX4_wordAt_79 : decode cX4_wordAt 79 = .ok (.ifnull 20, 3) := by decide +kernel
theorem dX4_wordAt_82 : decode cX4_wordAt 82 = .ok (.aload_n 0, 1) := by decide +kernel
theorem dX4_wordAt_83 : decode cX4_wordAt 83 = .ok (.aload 6, 2) := by decide +kernel
theorem dX4_wordAt_85 : decode cX4_wordAt 85 = .ok (.getfield 99, 3) := by decide +kernel
theorem dX4_wordAt_88 : decode cX4_wordAt 88 = .ok (.iload_n 1, 1) := by decide +kernel
theorem dX4_wordAt_89 : decode cX4_wordAt 89 = .ok (.iload_n 2, 1) := by decide +kernel
theorem dX4_wordAt_90 : decode cX4_wordAt 90 = .ok (.invokevirtual 103, 3) := by decide +kernel
theorem dX4_wordAt_93 : decode cX4_wordAt 93 = .ok (.ifCond .eq 6, 3) := by decide +kernel
theorem dX4_wordAt_96 : decode cX4_wordAt 96 = .ok (.aload 6, 2) := by decide +kernel
theorem dX4_wordAt_98 : decode cX4_wordAt 98 = .ok (.areturn, 1) := by decide +kernel
theorem dX4_wordAt_99 : decode cX4_wordAt 99 = .ok (.iinc 5 1, 3) := by decide +kernel
theorem dX4_wordAt_102 : decode cX4_wordAt 102 = .ok (.goto (-38), 3) := by decide +kernel
theorem dX4_wordAt_105 : decode cX4_wordAt 105 = .ok (.aconst_null, 1) := by decide +kernel
theorem dX4_wordAt_106 : decode cX4_wordAt 106 = .ok (.areturn, 1) := by decide +kernel
theorem dX4_isBetween_0 : decode cX4_isBetween 0 = .ok (.aload_n 1, 1) := by decide +kernel
theorem dX4_isBetween_1 : decode cX4_isBetween 1 = .ok (.invokevirtual 107, 3) := by decide +kernel
theorem dX4_isBetween_4 : decode cX4_isBetween 4 = .ok (.iload_n 3, 1) := by decide +kernel
theorem dX4_isBetween_5 : decode cX4_isBetween 5 = .ok (.iload_n 2, 1) := by decide +kernel
theorem dX4_isBetween_6 : decode cX4_isBetween 6 = .ok (.isub, 1) := by decide +kernel
theorem dX4_isBetween_7 : decode cX4_isBetween 7 = .ok (.if_icmp .eq 5, 3) := by decide +kernel
theorem dX4_isBetween_10 : decode cX4_isBetween 10 = .ok (.iconst 0, 1) := by decide +kernel
theorem dX4_isBetween_11 : decode cX4_isBetween 11 = .ok (.ireturn, 1) := by decide +kernel
theorem dX4_isBetween_12 : decode cX4_isBetween 12 = .ok (.iconst 0, 1) := by decide +kernel
theorem dX4_isBetween_13 : decode cX4_isBetween 13 = .ok (.istore 4, 2) := by decide +kernel
theorem dX4_isBetween_15 : decode cX4_isBetween 15 = .ok (.iload 4, 2) := by decide +kernel
theorem dX4_isBetween_17 : decode cX4_isBetween 17 = .ok (.aload_n 1, 1) := by decide +kernel
theorem dX4_isBetween_18 : decode cX4_isBetween 18 = .ok (.invokevirtual 107, 3) := by decide +kernel
theorem dX4_isBetween_21 : decode cX4_isBetween 21 = .ok (.if_icmp .ge 28, 3) := by decide +kernel
theorem dX4_isBetween_24 : decode cX4_isBetween 24 = .ok (.aload_n 1, 1) := by decide +kernel
theorem dX4_isBetween_25 : decode cX4_isBetween 25 = .ok (.iload 4, 2) := by decide +kernel
theorem dX4_isBetween_27 : decode cX4_isBetween 27 = .ok (.invokevirtual 111, 3) := by decide +kernel
theorem dX4_isBetween_30 : decode cX4_isBetween 30 = .ok (.aload_n 0, 1) := by decide +kernel
theorem dX4_isBetween_31 : decode cX4_isBetween 31 = .ok (.iload_n 2, 1) := by decide +kernel
theorem dX4_isBetween_32 : decode cX4_isBetween 32 = .ok (.iload 4, 2) := by decide +kernel
theorem dX4_isBetween_34 : decode cX4_isBetween 34 = .ok (.iadd, 1) := by decide +kernel
theorem dX4_isBetween_35 : decode cX4_isBetween 35 = .ok (.invokevirtual 115, 3) := by decide +kernel
theorem dX4_isBetween_38 : decode cX4_isBetween 38 = .ok (.if_icmp .eq 5, 3) := by decide +kernel
theorem dX4_isBetween_41 : decode cX4_isBetween 41 = .ok (.iconst 0, 1) := by decide +kernel
theorem dX4_isBetween_42 : decode cX4_isBetween 42 = .ok (.ireturn, 1) := by decide +kernel
theorem dX4_isBetween_43 : decode cX4_isBetween 43 = .ok (.iinc 4 1, 3) := by decide +kernel
theorem dX4_isBetween_46 : decode cX4_isBetween 46 = .ok (.goto (-31), 3) := by decide +kernel
theorem dX4_isBetween_49 : decode cX4_isBetween 49 = .ok (.iconst 1, 1) := by decide +kernel
theorem dX4_isBetween_50 : decode cX4_isBetween 50 = .ok (.ireturn, 1) := by decide +kernel
theorem dX4_readOrder_0 : decode cX4_readOrder 0 = .ok (.iconst 0, 1) := by decide +kernel
theorem dX4_readOrder_1 : decode cX4_readOrder 1 = .ok (.istore_n 3, 1) := by decide +kernel
theorem dX4_readOrder_2 : decode cX4_readOrder 2 = .ok (.iload_n 3, 1) := by decide +kernel
theorem dX4_readOrder_3 : decode cX4_readOrder 3 = .ok (.aload_n 0, 1) := by decide +kernel
theorem dX4_readOrder_4 : decode cX4_readOrder 4 = .ok (.getfield 15, 3) := by decide +kernel
theorem dX4_readOrder_7 : decode cX4_readOrder 7 = .ok (.arraylength, 1) := by decide +kernel
theorem dX4_readOrder_8 : decode cX4_readOrder 8 = .ok (.if_icmp .ge 16, 3) := by decide +kernel
theorem dX4_readOrder_11 : decode cX4_readOrder 11 = .ok (.aload_n 0, 1) := by decide +kernel
theorem dX4_readOrder_12 : decode cX4_readOrder 12 = .ok (.getfield 15, 3) := by decide +kernel
theorem dX4_readOrder_15 : decode cX4_readOrder 15 = .ok (.iload_n 3, 1) := by decide +kernel
theorem dX4_readOrder_16 : decode cX4_readOrder 16 = .ok (.iconst (-1), 1) := by decide +kernel
theorem dX4_readOrder_17 : decode cX4_readOrder 17 = .ok (.iastore, 1) := by decide +kernel
theorem dX4_readOrder_18 : decode cX4_readOrder 18 = .ok (.iinc 3 1, 3) := by decide +kernel
theorem dX4_readOrder_21 : decode cX4_readOrder 21 = .ok (.goto (-19), 3) := by decide +kernel
theorem dX4_readOrder_24 : decode cX4_readOrder 24 = .ok (.iload_n 2, 1) := by decide +kernel
theorem dX4_readOrder_25 : decode cX4_readOrder 25 = .ok (.aload_n 1, 1) := by decide +kernel
theorem dX4_readOrder_26 : decode cX4_readOrder 26 = .ok (.getfield 99, 3) := by decide +kernel
theorem dX4_readOrder_29 : decode cX4_readOrder 29 = .ok (.invokevirtual 107, 3) := by decide +kernel
theorem dX4_readOrder_32 : decode cX4_readOrder 32 = .ok (.iadd, 1) := by decide +kernel
theorem dX4_readOrder_33 : decode cX4_readOrder 33 = .ok (.istore_n 3, 1) := by decide +kernel
theorem dX4_readOrder_34 : decode cX4_readOrder 34 = .ok (.aload_n 1, 1) := by decide +kernel
theorem dX4_readOrder_35 : decode cX4_readOrder 35 = .ok (.getfield 118, 3) := by decide +kernel
theorem dX4_readOrder_38 : decode cX4_readOrder 38 = .ok (.ifCond .ne 8, 3) := by decide +kernel
theorem dX4_readOrder_41 : decode cX4_readOrder 41 = .ok (.bipush 59, 2) := by decide +kernel
theorem dX4_readOrder_43 : decode cX4_readOrder 43 = .ok (.goto 5, 3) := by decide +kernel
theorem dX4_readOrder_46 : decode cX4_readOrder 46 = .ok (.bipush 32, 2) := by decide +kernel
theorem dX4_readOrder_48 : decode cX4_readOrder 48 = .ok (.istore 4, 2) := by decide +kernel
theorem dX4_readOrder_50 : decode cX4_readOrder 50 = .ok (.aload_n 0, 1) := by decide +kernel
theorem dX4_readOrder_51 : decode cX4_readOrder 51 = .ok (.iload_n 3, 1) := by decide +kernel
theorem dX4_readOrder_52 : decode cX4_readOrder 52 = .ok (.invokevirtual 115, 3) := by decide +kernel
theorem dX4_readOrder_55 : decode cX4_readOrder 55 = .ok (.iload 4, 2) := by decide +kernel
theorem dX4_readOrder_57 : decode cX4_readOrder 57 = .ok (.if_icmp .eq 10, 3) := by decide +kernel
theorem dX4_readOrder_60 : decode cX4_readOrder 60 = .ok (.aload_n 0, 1) := by decide +kernel
theorem dX4_readOrder_61 : decode cX4_readOrder 61 = .ok (.iload_n 2, 1) := by decide +kernel
theorem dX4_readOrder_62 : decode cX4_readOrder 62 = .ok (.iload_n 3, 1) := by decide +kernel
theorem dX4_readOrder_63 : decode cX4_readOrder 63 = .ok (.invokevirtual 121, 3) := by decide +kernel
theorem dX4_readOrder_66 : decode cX4_readOrder 66 = .ok (.ireturn, 1) := by decide +kernel
theorem dX4_readOrder_67 : decode cX4_readOrder 67 = .ok (.aload_n 1, 1) := by decide +kernel
theorem dX4_readOrder_68 : decode cX4_readOrder 68 = .ok (.getfield 118, 3) := by decide +kernel
theorem dX4_readOrder_71 : decode cX4_readOrder 71 = .ok (.ifCond .ne 9, 3) := by decide +kernel
theorem dX4_readOrder_74 : decode cX4_readOrder 74 = .ok (.iload_n 3, 1) := by decide +kernel
theorem dX4_readOrder_75 : decode cX4_readOrder 75 = .ok (.iconst 1, 1) := by decide +kernel
theorem dX4_readOrder_76 : decode cX4_readOrder 76 = .ok (.iadd, 1) := by decide +kernel
theorem dX4_readOrder_77 : decode cX4_readOrder 77 = .ok (.goto 12, 3) := by decide +kernel
theorem dX4_readOrder_80 : decode cX4_readOrder 80 = .ok (.aload_n 0, 1) := by decide +kernel
theorem dX4_readOrder_81 : decode cX4_readOrder 81 = .ok (.aload_n 1, 1) := by decide +kernel
theorem dX4_readOrder_82 : decode cX4_readOrder 82 = .ok (.iload_n 2, 1) := by decide +kernel
theorem dX4_readOrder_83 : decode cX4_readOrder 83 = .ok (.iload_n 3, 1) := by decide +kernel
theorem dX4_readOrder_84 : decode cX4_readOrder 84 = .ok (.iconst 1, 1) := by decide +kernel
theorem dX4_readOrder_85 : decode cX4_readOrder 85 = .ok (.iadd, 1) := by decide +kernel
theorem dX4_readOrder_86 : decode cX4_readOrder 86 = .ok (.invokevirtual 125, 3) := by decide +kernel
theorem dX4_readOrder_89 : decode cX4_readOrder 89 = .ok (.ireturn, 1) := by decide +kernel
theorem dX4_readNumbers_0 : decode cX4_readNumbers 0 = .ok (.iload_n 3, 1) := by decide +kernel
theorem dX4_readNumbers_1 : decode cX4_readNumbers 1 = .ok (.istore 4, 2) := by decide +kernel
theorem dX4_readNumbers_3 : decode cX4_readNumbers 3 = .ok (.iconst 0, 1) := by decide +kernel
theorem dX4_readNumbers_4 : decode cX4_readNumbers 4 = .ok (.istore 5, 2) := by decide +kernel
theorem dX4_readNumbers_6 : decode cX4_readNumbers 6 = .ok (.iload 5, 2) := by decide +kernel
theorem dX4_readNumbers_8 : decode cX4_readNumbers 8 = .ok (.aload_n 1, 1) := by decide +kernel
theorem dX4_readNumbers_9 : decode cX4_readNumbers 9 = .ok (.getfield 118, 3) := by decide +kernel
theorem dX4_readNumbers_12 : decode cX4_readNumbers 12 = .ok (.if_icmp .ge 154, 3) := by decide +kernel
theorem dX4_readNumbers_15 : decode cX4_readNumbers 15 = .ok (.iload 5, 2) := by decide +kernel
theorem dX4_readNumbers_17 : decode cX4_readNumbers 17 = .ok (.aload_n 0, 1) := by decide +kernel
theorem dX4_readNumbers_18 : decode cX4_readNumbers 18 = .ok (.getfield 15, 3) := by decide +kernel
theorem dX4_readNumbers_21 : decode cX4_readNumbers 21 = .ok (.arraylength, 1) := by decide +kernel
theorem dX4_readNumbers_22 : decode cX4_readNumbers 22 = .ok (.if_icmp .ge 144, 3) := by decide +kernel
theorem dX4_readNumbers_25 : decode cX4_readNumbers 25 = .ok (.aload_n 0, 1) := by decide +kernel
theorem dX4_readNumbers_26 : decode cX4_readNumbers 26 = .ok (.iload 4, 2) := by decide +kernel
theorem dX4_readNumbers_28 : decode cX4_readNumbers 28 = .ok (.invokevirtual 129, 3) := by decide +kernel
theorem dX4_readNumbers_31 : decode cX4_readNumbers 31 = .ok (.ifCond .ne 11, 3) := by decide +kernel
theorem dX4_readNumbers_34 : decode cX4_readNumbers 34 = .ok (.aload_n 0, 1) := by decide +kernel
theorem dX4_readNumbers_35 : decode cX4_readNumbers 35 = .ok (.iload_n 2, 1) := by decide +kernel
theorem dX4_readNumbers_36 : decode cX4_readNumbers 36 = .ok (.iload 4, 2) := by decide +kernel
theorem dX4_readNumbers_38 : decode cX4_readNumbers 38 = .ok (.invokevirtual 121, 3) := by decide +kernel
theorem dX4_readNumbers_41 : decode cX4_readNumbers 41 = .ok (.ireturn, 1) := by decide +kernel
theorem dX4_readNumbers_42 : decode cX4_readNumbers 42 = .ok (.aload_n 0, 1) := by decide +kernel
theorem dX4_readNumbers_43 : decode cX4_readNumbers 43 = .ok (.getfield 15, 3) := by decide +kernel
theorem dX4_readNumbers_46 : decode cX4_readNumbers 46 = .ok (.iload 5, 2) := by decide +kernel
theorem dX4_readNumbers_48 : decode cX4_readNumbers 48 = .ok (.aload_n 0, 1) := by decide +kernel
theorem dX4_readNumbers_49 : decode cX4_readNumbers 49 = .ok (.iload 4, 2) := by decide +kernel
theorem dX4_readNumbers_51 : decode cX4_readNumbers 51 = .ok (.invokevirtual 115, 3) := by decide +kernel
theorem dX4_readNumbers_54 : decode cX4_readNumbers 54 = .ok (.bipush 48, 2) := by decide +kernel
theorem dX4_readNumbers_56 : decode cX4_readNumbers 56 = .ok (.isub, 1) := by decide +kernel
theorem dX4_readNumbers_57 : decode cX4_readNumbers 57 = .ok (.iastore, 1) := by decide +kernel
theorem dX4_readNumbers_58 : decode cX4_readNumbers 58 = .ok (.iinc 4 1, 3) := by decide +kernel
theorem dX4_readNumbers_61 : decode cX4_readNumbers 61 = .ok (.aload_n 0, 1) := by decide +kernel
theorem dX4_readNumbers_62 : decode cX4_readNumbers 62 = .ok (.iload 4, 2) := by decide +kernel
theorem dX4_readNumbers_64 : decode cX4_readNumbers 64 = .ok (.invokevirtual 129, 3) := by decide +kernel
theorem dX4_readNumbers_67 : decode cX4_readNumbers 67 = .ok (.ifCond .eq 33, 3) := by decide +kernel
theorem dX4_readNumbers_70 : decode cX4_readNumbers 70 = .ok (.aload_n 0, 1) := by decide +kernel
theorem dX4_readNumbers_71 : decode cX4_readNumbers 71 = .ok (.getfield 15, 3) := by decide +kernel
theorem dX4_readNumbers_74 : decode cX4_readNumbers 74 = .ok (.iload 5, 2) := by decide +kernel
theorem dX4_readNumbers_76 : decode cX4_readNumbers 76 = .ok (.bipush 10, 2) := by decide +kernel
theorem dX4_readNumbers_78 : decode cX4_readNumbers 78 = .ok (.aload_n 0, 1) := by decide +kernel
theorem dX4_readNumbers_79 : decode cX4_readNumbers 79 = .ok (.getfield 15, 3) := by decide +kernel
theorem dX4_readNumbers_82 : decode cX4_readNumbers 82 = .ok (.iload 5, 2) := by decide +kernel
theorem dX4_readNumbers_84 : decode cX4_readNumbers 84 = .ok (.iaload, 1) := by decide +kernel
theorem dX4_readNumbers_85 : decode cX4_readNumbers 85 = .ok (.imul, 1) := by decide +kernel
theorem dX4_readNumbers_86 : decode cX4_readNumbers 86 = .ok (.aload_n 0, 1) := by decide +kernel
theorem dX4_readNumbers_87 : decode cX4_readNumbers 87 = .ok (.iload 4, 2) := by decide +kernel
theorem dX4_readNumbers_89 : decode cX4_readNumbers 89 = .ok (.invokevirtual 115, 3) := by decide +kernel
theorem dX4_readNumbers_92 : decode cX4_readNumbers 92 = .ok (.iadd, 1) := by decide +kernel
theorem dX4_readNumbers_93 : decode cX4_readNumbers 93 = .ok (.bipush 48, 2) := by decide +kernel
theorem dX4_readNumbers_95 : decode cX4_readNumbers 95 = .ok (.isub, 1) := by decide +kernel
theorem dX4_readNumbers_96 : decode cX4_readNumbers 96 = .ok (.iastore, 1) := by decide +kernel
theorem dX4_readNumbers_97 : decode cX4_readNumbers 97 = .ok (.iinc 4 1, 3) := by decide +kernel
theorem dX4_readNumbers_100 : decode cX4_readNumbers 100 = .ok (.aload_n 0, 1) := by decide +kernel
theorem dX4_readNumbers_101 : decode cX4_readNumbers 101 = .ok (.iload 4, 2) := by decide +kernel
theorem dX4_readNumbers_103 : decode cX4_readNumbers 103 = .ok (.invokevirtual 115, 3) := by decide +kernel
theorem dX4_readNumbers_106 : decode cX4_readNumbers 106 = .ok (.istore 6, 2) := by decide +kernel
theorem dX4_readNumbers_108 : decode cX4_readNumbers 108 = .ok (.iload 6, 2) := by decide +kernel
theorem dX4_readNumbers_110 : decode cX4_readNumbers 110 = .ok (.bipush 59, 2) := by decide +kernel
theorem dX4_readNumbers_112 : decode cX4_readNumbers 112 = .ok (.if_icmp .ne 19, 3) := by decide +kernel
theorem dX4_readNumbers_115 : decode cX4_readNumbers 115 = .ok (.iload 5, 2) := by decide +kernel
theorem dX4_readNumbers_117 : decode cX4_readNumbers 117 = .ok (.iconst 1, 1) := by decide +kernel
theorem dX4_readNumbers_118 : decode cX4_readNumbers 118 = .ok (.iadd, 1) := by decide +kernel
theorem dX4_readNumbers_119 : decode cX4_readNumbers 119 = .ok (.aload_n 1, 1) := by decide +kernel
theorem dX4_readNumbers_120 : decode cX4_readNumbers 120 = .ok (.getfield 132, 3) := by decide +kernel
theorem dX4_readNumbers_123 : decode cX4_readNumbers 123 = .ok (.if_icmp .lt 8, 3) := by decide +kernel
theorem dX4_readNumbers_126 : decode cX4_readNumbers 126 = .ok (.iload 4, 2) := by decide +kernel
theorem dX4_readNumbers_128 : decode cX4_readNumbers 128 = .ok (.iconst 1, 1) := by decide +kernel
theorem dX4_readNumbers_129 : decode cX4_readNumbers 129 = .ok (.iadd, 1) := by decide +kernel
theorem dX4_readNumbers_130 : decode cX4_readNumbers 130 = .ok (.ireturn, 1) := by decide +kernel
theorem dX4_readNumbers_131 : decode cX4_readNumbers 131 = .ok (.iload 6, 2) := by decide +kernel
theorem dX4_readNumbers_133 : decode cX4_readNumbers 133 = .ok (.bipush 44, 2) := by decide +kernel
theorem dX4_readNumbers_135 : decode cX4_readNumbers 135 = .ok (.if_icmp .ne 14, 3) := by decide +kernel
theorem dX4_readNumbers_138 : decode cX4_readNumbers 138 = .ok (.iload 5, 2) := by decide +kernel
theorem dX4_readNumbers_140 : decode cX4_readNumbers 140 = .ok (.iconst 1, 1) := by decide +kernel
theorem dX4_readNumbers_141 : decode cX4_readNumbers 141 = .ok (.iadd, 1) := by decide +kernel
theorem dX4_readNumbers_142 : decode cX4_readNumbers 142 = .ok (.aload_n 1, 1) := by decide +kernel
theorem dX4_readNumbers_143 : decode cX4_readNumbers 143 = .ok (.getfield 118, 3) := by decide +kernel
theorem dX4_readNumbers_146 : decode cX4_readNumbers 146 = .ok (.if_icmp .lt 11, 3) := by decide +kernel
theorem dX4_readNumbers_149 : decode cX4_readNumbers 149 = .ok (.aload_n 0, 1) := by decide +kernel
theorem dX4_readNumbers_150 : decode cX4_readNumbers 150 = .ok (.iload_n 2, 1) := by decide +kernel
theorem dX4_readNumbers_151 : decode cX4_readNumbers 151 = .ok (.iload 4, 2) := by decide +kernel
theorem dX4_readNumbers_153 : decode cX4_readNumbers 153 = .ok (.invokevirtual 121, 3) := by decide +kernel
theorem dX4_readNumbers_156 : decode cX4_readNumbers 156 = .ok (.ireturn, 1) := by decide +kernel
theorem dX4_readNumbers_157 : decode cX4_readNumbers 157 = .ok (.iinc 4 1, 3) := by decide +kernel
theorem dX4_readNumbers_160 : decode cX4_readNumbers 160 = .ok (.iinc 5 1, 3) := by decide +kernel
theorem dX4_readNumbers_163 : decode cX4_readNumbers 163 = .ok (.goto (-157), 3) := by decide +kernel
theorem dX4_readNumbers_166 : decode cX4_readNumbers 166 = .ok (.aload_n 0, 1) := by decide +kernel
theorem dX4_readNumbers_167 : decode cX4_readNumbers 167 = .ok (.iload_n 2, 1) := by decide +kernel
theorem dX4_readNumbers_168 : decode cX4_readNumbers 168 = .ok (.iload 4, 2) := by decide +kernel
theorem dX4_readNumbers_170 : decode cX4_readNumbers 170 = .ok (.invokevirtual 121, 3) := by decide +kernel
theorem dX4_readNumbers_173 : decode cX4_readNumbers 173 = .ok (.ireturn, 1) := by decide +kernel
theorem dX4_notFitting_0 : decode cX4_notFitting 0 = .ok (.aload_n 0, 1) := by decide +kernel
theorem dX4_notFitting_1 : decode cX4_notFitting 1 = .ok (.iload_n 2, 1) := by decide +kernel
theorem dX4_notFitting_2 : decode cX4_notFitting 2 = .ok (.iload_n 1, 1) := by decide +kernel
theorem dX4_notFitting_3 : decode cX4_notFitting 3 = .ok (.isub, 1) := by decide +kernel
theorem dX4_notFitting_4 : decode cX4_notFitting 4 = .ok (.putfield 49, 3) := by decide +kernel
theorem dX4_notFitting_7 : decode cX4_notFitting 7 = .ok (.iconst (-1), 1) := by decide +kernel
theorem dX4_notFitting_8 : decode cX4_notFitting 8 = .ok (.ireturn, 1) := by decide +kernel
theorem dX4_characterAt_0 : decode cX4_characterAt 0 = .ok (.iload_n 1, 1) := by decide +kernel
theorem dX4_characterAt_1 : decode cX4_characterAt 1 = .ok (.ifCond .lt 29, 3) := by decide +kernel
theorem dX4_characterAt_4 : decode cX4_characterAt 4 = .ok (.iload_n 1, 1) := by decide +kernel
theorem dX4_characterAt_5 : decode cX4_characterAt 5 = .ok (.aload_n 0, 1) := by decide +kernel
theorem dX4_characterAt_6 : decode cX4_characterAt 6 = .ok (.getfield 19, 3) := by decide +kernel
theorem dX4_characterAt_9 : decode cX4_characterAt 9 = .ok (.if_icmp .ge 21, 3) := by decide +kernel
theorem dX4_characterAt_12 : decode cX4_characterAt 12 = .ok (.iload_n 1, 1) := by decide +kernel
theorem dX4_characterAt_13 : decode cX4_characterAt 13 = .ok (.aload_n 0, 1) := by decide +kernel
theorem dX4_characterAt_14 : decode cX4_characterAt 14 = .ok (.getfield 9, 3) := by decide +kernel
theorem dX4_characterAt_17 : decode cX4_characterAt 17 = .ok (.arraylength, 1) := by decide +kernel
theorem dX4_characterAt_18 : decode cX4_characterAt 18 = .ok (.if_icmp .ge 12, 3) := by decide +kernel
theorem dX4_characterAt_21 : decode cX4_characterAt 21 = .ok (.aload_n 0, 1) := by decide +kernel
theorem dX4_characterAt_22 : decode cX4_characterAt 22 = .ok (.getfield 9, 3) := by decide +kernel
theorem dX4_characterAt_25 : decode cX4_characterAt 25 = .ok (.iload_n 1, 1) := by decide +kernel
theorem dX4_characterAt_26 : decode cX4_characterAt 26 = .ok (.caload, 1) := by decide +kernel
theorem dX4_characterAt_27 : decode cX4_characterAt 27 = .ok (.goto 4, 3) := by decide +kernel
theorem dX4_characterAt_30 : decode cX4_characterAt 30 = .ok (.iconst 0, 1) := by decide +kernel
theorem dX4_characterAt_31 : decode cX4_characterAt 31 = .ok (.ireturn, 1) := by decide +kernel
theorem dX4_isLetter_0 : decode cX4_isLetter 0 = .ok (.aload_n 0, 1) := by decide +kernel
theorem dX4_isLetter_1 : decode cX4_isLetter 1 = .ok (.iload_n 1, 1) := by decide +kernel
theorem dX4_isLetter_2 : decode cX4_isLetter 2 = .ok (.invokevirtual 115, 3) := by decide +kernel
theorem dX4_isLetter_5 : decode cX4_isLetter 5 = .ok (.bipush 97, 2) := by decide +kernel
theorem dX4_isLetter_7 : decode cX4_isLetter 7 = .ok (.if_icmp .lt 17, 3) := by decide +kernel
theorem dX4_isLetter_10 : decode cX4_isLetter 10 = .ok (.aload_n 0, 1) := by decide +kernel
theorem dX4_isLetter_11 : decode cX4_isLetter 11 = .ok (.iload_n 1, 1) := by decide +kernel
theorem dX4_isLetter_12 : decode cX4_isLetter 12 = .ok (.invokevirtual 115, 3) := by decide +kernel
theorem dX4_isLetter_15 : decode cX4_isLetter 15 = .ok (.bipush 122, 2) := by decide +kernel
theorem dX4_isLetter_17 : decode cX4_isLetter 17 = .ok (.if_icmp .gt 7, 3) := by decide +kernel
theorem dX4_isLetter_20 : decode cX4_isLetter 20 = .ok (.iconst 1, 1) := by decide +kernel
theorem dX4_isLetter_21 : decode cX4_isLetter 21 = .ok (.goto 4, 3) := by decide +kernel
theorem dX4_isLetter_24 : decode cX4_isLetter 24 = .ok (.iconst 0, 1) := by decide +kernel
theorem dX4_isLetter_25 : decode cX4_isLetter 25 = .ok (.ireturn, 1) := by decide +kernel
theorem dX4_isDigit_0 : decode cX4_isDigit 0 = .ok (.aload_n 0, 1) := by decide +kernel
theorem dX4_isDigit_1 : decode cX4_isDigit 1 = .ok (.iload_n 1, 1) := by decide +kernel
theorem dX4_isDigit_2 : decode cX4_isDigit 2 = .ok (.invokevirtual 115, 3) := by decide +kernel
theorem dX4_isDigit_5 : decode cX4_isDigit 5 = .ok (.bipush 48, 2) := by decide +kernel
theorem dX4_isDigit_7 : decode cX4_isDigit 7 = .ok (.if_icmp .lt 17, 3) := by decide +kernel
theorem dX4_isDigit_10 : decode cX4_isDigit 10 = .ok (.aload_n 0, 1) := by decide +kernel
theorem dX4_isDigit_11 : decode cX4_isDigit 11 = .ok (.iload_n 1, 1) := by decide +kernel
theorem dX4_isDigit_12 : decode cX4_isDigit 12 = .ok (.invokevirtual 115, 3) := by decide +kernel
theorem dX4_isDigit_15 : decode cX4_isDigit 15 = .ok (.bipush 57, 2) := by decide +kernel
theorem dX4_isDigit_17 : decode cX4_isDigit 17 = .ok (.if_icmp .gt 7, 3) := by decide +kernel
theorem dX4_isDigit_20 : decode cX4_isDigit 20 = .ok (.iconst 1, 1) := by decide +kernel
theorem dX4_isDigit_21 : decode cX4_isDigit 21 = .ok (.goto 4, 3) := by decide +kernel
theorem dX4_isDigit_24 : decode cX4_isDigit 24 = .ok (.iconst 0, 1) := by decide +kernel
theorem dX4_isDigit_25 : decode cX4_isDigit 25 = .ok (.ireturn, 1) := by decide +kernel
theorem dX4_numberAt_0 : decode cX4_numberAt 0 = .ok (.iload_n 1, 1) := by decide +kernel
theorem dX4_numberAt_1 : decode cX4_numberAt 1 = .ok (.ifCond .lt 21, 3) := by decide +kernel
theorem dX4_numberAt_4 : decode cX4_numberAt 4 = .ok (.iload_n 1, 1) := by decide +kernel
theorem dX4_numberAt_5 : decode cX4_numberAt 5 = .ok (.aload_n 0, 1) := by decide +kernel
theorem dX4_numberAt_6 : decode cX4_numberAt 6 = .ok (.getfield 15, 3) := by decide +kernel
theorem dX4_numberAt_9 : decode cX4_numberAt 9 = .ok (.arraylength, 1) := by decide +kernel
theorem dX4_numberAt_10 : decode cX4_numberAt 10 = .ok (.if_icmp .ge 12, 3) := by decide +kernel
theorem dX4_numberAt_13 : decode cX4_numberAt 13 = .ok (.aload_n 0, 1) := by decide +kernel
theorem dX4_numberAt_14 : decode cX4_numberAt 14 = .ok (.getfield 15, 3) := by decide +kernel
theorem dX4_numberAt_17 : decode cX4_numberAt 17 = .ok (.iload_n 1, 1) := by decide +kernel
theorem dX4_numberAt_18 : decode cX4_numberAt 18 = .ok (.iaload, 1) := by decide +kernel
theorem dX4_numberAt_19 : decode cX4_numberAt 19 = .ok (.goto 4, 3) := by decide +kernel
theorem dX4_numberAt_22 : decode cX4_numberAt 22 = .ok (.iconst (-1), 1) := by decide +kernel
theorem dX4_numberAt_23 : decode cX4_numberAt 23 = .ok (.ireturn, 1) := by decide +kernel
theorem dX6_init_0 : decode cX6_init 0 = .ok (.aload_n 0, 1) := by decide +kernel
theorem dX6_init_1 : decode cX6_init 1 = .ok (.invokespecial 1, 3) := by decide +kernel
theorem dX6_init_4 : decode cX6_init 4 = .ok (.aload_n 0, 1) := by decide +kernel
theorem dX6_init_5 : decode cX6_init 5 = .ok (.new 7, 3) := by decide +kernel
theorem dX6_init_8 : decode cX6_init 8 = .ok (.dup, 1) := by decide +kernel
theorem dX6_init_9 : decode cX6_init 9 = .ok (.invokespecial 9, 3) := by decide +kernel
theorem dX6_init_12 : decode cX6_init 12 = .ok (.putfield 10, 3) := by decide +kernel
theorem dX6_init_15 : decode cX6_init 15 = .ok (.aload_n 0, 1) := by decide +kernel
theorem dX6_init_16 : decode cX6_init 16 = .ok (.new 7, 3) := by decide +kernel
theorem dX6_init_19 : decode cX6_init 19 = .ok (.dup, 1) := by decide +kernel
theorem dX6_init_20 : decode cX6_init 20 = .ok (.invokespecial 9, 3) := by decide +kernel
theorem dX6_init_23 : decode cX6_init 23 = .ok (.putfield 16, 3) := by decide +kernel
theorem dX6_init_26 : decode cX6_init 26 = .ok (.aload_n 0, 1) := by decide +kernel
theorem dX6_init_27 : decode cX6_init 27 = .ok (.new 19, 3) := by decide +kernel
theorem dX6_init_30 : decode cX6_init 30 = .ok (.dup, 1) := by decide +kernel
theorem dX6_init_31 : decode cX6_init 31 = .ok (.invokespecial 21, 3) := by decide +kernel
theorem dX6_init_34 : decode cX6_init 34 = .ok (.putfield 22, 3) := by decide +kernel
theorem dX6_init_37 : decode cX6_init 37 = .ok (.aload_n 0, 1) := by decide +kernel
theorem dX6_init_38 : decode cX6_init 38 = .ok (.new 26, 3) := by decide +kernel
theorem dX6_init_41 : decode cX6_init 41 = .ok (.dup, 1) := by decide +kernel
theorem dX6_init_42 : decode cX6_init 42 = .ok (.invokespecial 28, 3) := by decide +kernel
theorem dX6_init_45 : decode cX6_init 45 = .ok (.putfield 29, 3) := by decide +kernel
theorem dX6_init_48 : decode cX6_init 48 = .ok (.return_, 1) := by decide +kernel
theorem dX6_course_0 : decode cX6_course 0 = .ok (.aload_n 0, 1) := by decide +kernel
theorem dX6_course_1 : decode cX6_course 1 = .ok (.getfield 22, 3) := by decide +kernel
theorem dX6_course_4 : decode cX6_course 4 = .ok (.aload_n 0, 1) := by decide +kernel
theorem dX6_course_5 : decode cX6_course 5 = .ok (.getfield 10, 3) := by decide +kernel
theorem dX6_course_8 : decode cX6_course 8 = .ok (.invokevirtual 33, 3) := by decide +kernel
theorem dX6_course_11 : decode cX6_course 11 = .ok (.aload_n 0, 1) := by decide +kernel
theorem dX6_course_12 : decode cX6_course 12 = .ok (.getfield 22, 3) := by decide +kernel
theorem dX6_course_15 : decode cX6_course 15 = .ok (.aload_n 0, 1) := by decide +kernel
theorem dX6_course_16 : decode cX6_course 16 = .ok (.getfield 10, 3) := by decide +kernel
theorem dX6_course_19 : decode cX6_course 19 = .ok (.iload_n 1, 1) := by decide +kernel
theorem dX6_course_20 : decode cX6_course 20 = .ok (.iload_n 2, 1) := by decide +kernel
theorem dX6_course_21 : decode cX6_course 21 = .ok (.iload_n 3, 1) := by decide +kernel
theorem dX6_course_22 : decode cX6_course 22 = .ok (.iload 4, 2) := by decide +kernel
theorem dX6_course_24 : decode cX6_course 24 = .ok (.invokevirtual 37, 3) := by decide +kernel
theorem dX6_course_27 : decode cX6_course 27 = .ok (.invokevirtual 41, 3) := by decide +kernel
theorem dX6_course_30 : decode cX6_course 30 = .ok (.ireturn, 1) := by decide +kernel
theorem dX6_room_0 : decode cX6_room 0 = .ok (.aload_n 0, 1) := by decide +kernel
theorem dX6_room_1 : decode cX6_room 1 = .ok (.getfield 22, 3) := by decide +kernel
theorem dX6_room_4 : decode cX6_room 4 = .ok (.aload_n 0, 1) := by decide +kernel
theorem dX6_room_5 : decode cX6_room 5 = .ok (.getfield 10, 3) := by decide +kernel
theorem dX6_room_8 : decode cX6_room 8 = .ok (.invokevirtual 33, 3) := by decide +kernel
theorem dX6_room_11 : decode cX6_room 11 = .ok (.aload_n 0, 1) := by decide +kernel
theorem dX6_room_12 : decode cX6_room 12 = .ok (.getfield 22, 3) := by decide +kernel
theorem dX6_room_15 : decode cX6_room 15 = .ok (.aload_n 0, 1) := by decide +kernel
theorem dX6_room_16 : decode cX6_room 16 = .ok (.getfield 10, 3) := by decide +kernel
theorem dX6_room_19 : decode cX6_room 19 = .ok (.iload_n 1, 1) := by decide +kernel
theorem dX6_room_20 : decode cX6_room 20 = .ok (.invokevirtual 45, 3) := by decide +kernel
theorem dX6_room_23 : decode cX6_room 23 = .ok (.invokevirtual 41, 3) := by decide +kernel
theorem dX6_room_26 : decode cX6_room 26 = .ok (.ireturn, 1) := by decide +kernel
theorem dX6_join_0 : decode cX6_join 0 = .ok (.aload_n 0, 1) := by decide +kernel
theorem dX6_join_1 : decode cX6_join 1 = .ok (.getfield 22, 3) := by decide +kernel
theorem dX6_join_4 : decode cX6_join 4 = .ok (.aload_n 0, 1) := by decide +kernel
theorem dX6_join_5 : decode cX6_join 5 = .ok (.getfield 10, 3) := by decide +kernel
theorem dX6_join_8 : decode cX6_join 8 = .ok (.invokevirtual 33, 3) := by decide +kernel
theorem dX6_join_11 : decode cX6_join 11 = .ok (.aload_n 0, 1) := by decide +kernel
theorem dX6_join_12 : decode cX6_join 12 = .ok (.getfield 22, 3) := by decide +kernel
theorem dX6_join_15 : decode cX6_join 15 = .ok (.aload_n 0, 1) := by decide +kernel
theorem dX6_join_16 : decode cX6_join 16 = .ok (.getfield 10, 3) := by decide +kernel
theorem dX6_join_19 : decode cX6_join 19 = .ok (.iload_n 1, 1) := by decide +kernel
theorem dX6_join_20 : decode cX6_join 20 = .ok (.iload_n 2, 1) := by decide +kernel
theorem dX6_join_21 : decode cX6_join 21 = .ok (.iload_n 3, 1) := by decide +kernel
theorem dX6_join_22 : decode cX6_join 22 = .ok (.invokevirtual 48, 3) := by decide +kernel
theorem dX6_join_25 : decode cX6_join 25 = .ok (.invokevirtual 41, 3) := by decide +kernel
theorem dX6_join_28 : decode cX6_join 28 = .ok (.ireturn, 1) := by decide +kernel
theorem dX6_wish_0 : decode cX6_wish 0 = .ok (.aload_n 0, 1) := by decide +kernel
theorem dX6_wish_1 : decode cX6_wish 1 = .ok (.getfield 22, 3) := by decide +kernel
theorem dX6_wish_4 : decode cX6_wish 4 = .ok (.aload_n 0, 1) := by decide +kernel
theorem dX6_wish_5 : decode cX6_wish 5 = .ok (.getfield 10, 3) := by decide +kernel
theorem dX6_wish_8 : decode cX6_wish 8 = .ok (.invokevirtual 33, 3) := by decide +kernel
theorem dX6_wish_11 : decode cX6_wish 11 = .ok (.aload_n 0, 1) := by decide +kernel
theorem dX6_wish_12 : decode cX6_wish 12 = .ok (.getfield 22, 3) := by decide +kernel
theorem dX6_wish_15 : decode cX6_wish 15 = .ok (.aload_n 0, 1) := by decide +kernel
theorem dX6_wish_16 : decode cX6_wish 16 = .ok (.getfield 10, 3) := by decide +kernel
theorem dX6_wish_19 : decode cX6_wish 19 = .ok (.iload_n 1, 1) := by decide +kernel
theorem dX6_wish_20 : decode cX6_wish 20 = .ok (.iload_n 2, 1) := by decide +kernel
theorem dX6_wish_21 : decode cX6_wish 21 = .ok (.iload_n 3, 1) := by decide +kernel
theorem dX6_wish_22 : decode cX6_wish 22 = .ok (.iload 4, 2) := by decide +kernel
theorem dX6_wish_24 : decode cX6_wish 24 = .ok (.invokevirtual 52, 3) := by decide +kernel
theorem dX6_wish_27 : decode cX6_wish 27 = .ok (.invokevirtual 41, 3) := by decide +kernel
theorem dX6_wish_30 : decode cX6_wish 30 = .ok (.ireturn, 1) := by decide +kernel
theorem dX6_leave_0 : decode cX6_leave 0 = .ok (.aload_n 0, 1) := by decide +kernel
theorem dX6_leave_1 : decode cX6_leave 1 = .ok (.getfield 22, 3) := by decide +kernel
theorem dX6_leave_4 : decode cX6_leave 4 = .ok (.aload_n 0, 1) := by decide +kernel
theorem dX6_leave_5 : decode cX6_leave 5 = .ok (.getfield 10, 3) := by decide +kernel
theorem dX6_leave_8 : decode cX6_leave 8 = .ok (.invokevirtual 33, 3) := by decide +kernel
theorem dX6_leave_11 : decode cX6_leave 11 = .ok (.aload_n 0, 1) := by decide +kernel
theorem dX6_leave_12 : decode cX6_leave 12 = .ok (.getfield 22, 3) := by decide +kernel
theorem dX6_leave_15 : decode cX6_leave 15 = .ok (.aload_n 0, 1) := by decide +kernel
theorem dX6_leave_16 : decode cX6_leave 16 = .ok (.getfield 10, 3) := by decide +kernel
theorem dX6_leave_19 : decode cX6_leave 19 = .ok (.iload_n 1, 1) := by decide +kernel
theorem dX6_leave_20 : decode cX6_leave 20 = .ok (.invokevirtual 55, 3) := by decide +kernel
theorem dX6_leave_23 : decode cX6_leave 23 = .ok (.invokevirtual 41, 3) := by decide +kernel
theorem dX6_leave_26 : decode cX6_leave 26 = .ok (.ireturn, 1) := by decide +kernel
theorem dX6_close_0 : decode cX6_close 0 = .ok (.aload_n 0, 1) := by decide +kernel
theorem dX6_close_1 : decode cX6_close 1 = .ok (.getfield 22, 3) := by decide +kernel
theorem dX6_close_4 : decode cX6_close 4 = .ok (.aload_n 0, 1) := by decide +kernel
theorem dX6_close_5 : decode cX6_close 5 = .ok (.getfield 10, 3) := by decide +kernel
theorem dX6_close_8 : decode cX6_close 8 = .ok (.invokevirtual 33, 3) := by decide +kernel
theorem dX6_close_11 : decode cX6_close 11 = .ok (.aload_n 0, 1) := by decide +kernel
theorem dX6_close_12 : decode cX6_close 12 = .ok (.getfield 22, 3) := by decide +kernel
theorem dX6_close_15 : decode cX6_close 15 = .ok (.aload_n 0, 1) := by decide +kernel
theorem dX6_close_16 : decode cX6_close 16 = .ok (.getfield 10, 3) := by decide +kernel
theorem dX6_close_19 : decode cX6_close 19 = .ok (.invokevirtual 58, 3) := by decide +kernel
theorem dX6_close_22 : decode cX6_close 22 = .ok (.invokevirtual 41, 3) := by decide +kernel
theorem dX6_close_25 : decode cX6_close 25 = .ok (.ireturn, 1) := by decide +kernel
theorem dX6_term_0 : decode cX6_term 0 = .ok (.aload_n 0, 1) := by decide +kernel
theorem dX6_term_1 : decode cX6_term 1 = .ok (.getfield 22, 3) := by decide +kernel
theorem dX6_term_4 : decode cX6_term 4 = .ok (.aload_n 0, 1) := by decide +kernel
theorem dX6_term_5 : decode cX6_term 5 = .ok (.getfield 10, 3) := by decide +kernel
theorem dX6_term_8 : decode cX6_term 8 = .ok (.invokevirtual 33, 3) := by decide +kernel
theorem dX6_term_11 : decode cX6_term 11 = .ok (.aload_n 0, 1) := by decide +kernel
theorem dX6_term_12 : decode cX6_term 12 = .ok (.getfield 22, 3) := by decide +kernel
theorem dX6_term_15 : decode cX6_term 15 = .ok (.aload_n 0, 1) := by decide +kernel
theorem dX6_term_16 : decode cX6_term 16 = .ok (.getfield 10, 3) := by decide +kernel
theorem dX6_term_19 : decode cX6_term 19 = .ok (.invokevirtual 62, 3) := by decide +kernel
theorem dX6_term_22 : decode cX6_term 22 = .ok (.invokevirtual 41, 3) := by decide +kernel
theorem dX6_term_25 : decode cX6_term 25 = .ok (.ireturn, 1) := by decide +kernel
theorem dX6_courseOf_0 : decode cX6_courseOf 0 = .ok (.aload_n 0, 1) := by decide +kernel
theorem dX6_courseOf_1 : decode cX6_courseOf 1 = .ok (.getfield 10, 3) := by decide +kernel
theorem dX6_courseOf_4 : decode cX6_courseOf 4 = .ok (.iload_n 1, 1) := by decide +kernel
theorem dX6_courseOf_5 : decode cX6_courseOf 5 = .ok (.invokevirtual 65, 3) := by decide +kernel
theorem dX6_courseOf_8 : decode cX6_courseOf 8 = .ok (.astore_n 3, 1) := by decide +kernel
theorem dX6_courseOf_9 : decode cX6_courseOf 9 = .ok (.aload_n 3, 1) := by decide +kernel
theorem dX6_courseOf_10 : decode cX6_courseOf 10 = .ok (.ifnonnull 6, 3) := by decide +kernel
theorem dX6_courseOf_13 : decode cX6_courseOf 13 = .ok (.ldc 69, 2) := by decide +kernel
theorem dX6_courseOf_15 : decode cX6_courseOf 15 = .ok (.ireturn, 1) := by decide +kernel
theorem dX6_courseOf_16 : decode cX6_courseOf 16 = .ok (.iload_n 2, 1) := by decide +kernel
theorem dX6_courseOf_17 : decode cX6_courseOf 17 = .ok (.tableswitch 151 0 12 #[67, 72, 77, 82, 87, 92, 97, 102, 107, 116, 124, 132, 146], 67) := by decide +kernel
theorem dX6_courseOf_84 : decode cX6_courseOf 84 = .ok (.aload_n 3, 1) := by decide +kernel
theorem dX6_courseOf_85 : decode cX6_courseOf 85 = .ok (.getfield 70, 3) := by decide +kernel
theorem dX6_courseOf_88 : decode cX6_courseOf 88 = .ok (.ireturn, 1) := by decide +kernel
theorem dX6_courseOf_89 : decode cX6_courseOf 89 = .ok (.aload_n 3, 1) := by decide +kernel
theorem dX6_courseOf_90 : decode cX6_courseOf 90 = .ok (.getfield 76, 3) := by decide +kernel
theorem dX6_courseOf_93 : decode cX6_courseOf 93 = .ok (.ireturn, 1) := by decide +kernel
theorem dX6_courseOf_94 : decode cX6_courseOf 94 = .ok (.aload_n 3, 1) := by decide +kernel
theorem dX6_courseOf_95 : decode cX6_courseOf 95 = .ok (.getfield 79, 3) := by decide +kernel
theorem dX6_courseOf_98 : decode cX6_courseOf 98 = .ok (.ireturn, 1) := by decide +kernel
theorem dX6_courseOf_99 : decode cX6_courseOf 99 = .ok (.aload_n 3, 1) := by decide +kernel
theorem dX6_courseOf_100 : decode cX6_courseOf 100 = .ok (.getfield 82, 3) := by decide +kernel
theorem dX6_courseOf_103 : decode cX6_courseOf 103 = .ok (.ireturn, 1) := by decide +kernel
theorem dX6_courseOf_104 : decode cX6_courseOf 104 = .ok (.aload_n 3, 1) := by decide +kernel
theorem dX6_courseOf_105 : decode cX6_courseOf 105 = .ok (.getfield 85, 3) := by decide +kernel
theorem dX6_courseOf_108 : decode cX6_courseOf 108 = .ok (.ireturn, 1) := by decide +kernel
theorem dX6_courseOf_109 : decode cX6_courseOf 109 = .ok (.aload_n 3, 1) := by decide +kernel
theorem dX6_courseOf_110 : decode cX6_courseOf 110 = .ok (.getfield 88, 3) := by decide +kernel
theorem dX6_courseOf_113 : decode cX6_courseOf 113 = .ok (.ireturn, 1) := by decide +kernel
theorem dX6_courseOf_114 : decode cX6_courseOf 114 = .ok (.aload_n 3, 1) := by decide +kernel
theorem dX6_courseOf_115 : decode cX6_courseOf 115 = .ok (.getfield 91, 3) := by decide +kernel
theorem dX6_courseOf_118 : decode cX6_courseOf 118 = .ok (.ireturn, 1) := by decide +kernel
theorem dX6_courseOf_119 : decode cX6_courseOf 119 = .ok (.aload_n 3, 1) := by decide +kernel
theorem dX6_courseOf_120 : decode cX6_courseOf 120 = .ok (.getfield 94, 3) := by decide +kernel
theorem dX6_courseOf_123 : decode cX6_courseOf 123 = .ok (.ireturn, 1) := by decide +kernel
theorem dX6_courseOf_124 : decode cX6_courseOf 124 = .ok (.aload_n 0, 1) := by decide +kernel
theorem dX6_courseOf_125 : decode cX6_courseOf 125 = .ok (.getfield 10, 3) := by decide +kernel
theorem dX6_courseOf_128 : decode cX6_courseOf 128 = .ok (.iload_n 1, 1) := by decide +kernel
theorem dX6_courseOf_129 : decode cX6_courseOf 129 = .ok (.invokevirtual 97, 3) := by decide +kernel
theorem dX6_courseOf_132 : decode cX6_courseOf 132 = .ok (.ireturn, 1) := by decide +kernel
theorem dX6_courseOf_133 : decode cX6_courseOf 133 = .ok (.aload_n 3, 1) := by decide +kernel
theorem dX6_courseOf_134 : decode cX6_courseOf 134 = .ok (.getfield 100, 3) := by decide +kernel
theorem dX6_courseOf_137 : decode cX6_courseOf 137 = .ok (.invokestatic 103, 3) := by decide +kernel
theorem dX6_courseOf_140 : decode cX6_courseOf 140 = .ok (.ireturn, 1) := by decide +kernel
theorem dX6_courseOf_141 : decode cX6_courseOf 141 = .ok (.aload_n 3, 1) := by decide +kernel
theorem dX6_courseOf_142 : decode cX6_courseOf 142 = .ok (.getfield 106, 3) := by decide +kernel
theorem dX6_courseOf_145 : decode cX6_courseOf 145 = .ok (.invokestatic 103, 3) := by decide +kernel
theorem dX6_courseOf_148 : decode cX6_courseOf 148 = .ok (.ireturn, 1) := by decide +kernel
theorem dX6_courseOf_149 : decode cX6_courseOf 149 = .ok (.iconst 0, 1) := by decide +kernel
theorem dX6_courseOf_150 : decode cX6_courseOf 150 = .ok (.aload_n 3, 1) := by decide +kernel
theorem dX6_courseOf_151 : decode cX6_courseOf 151 = .ok (.getfield 82, 3) := by decide +kernel
theorem dX6_courseOf_154 : decode cX6_courseOf 154 = .ok (.aload_n 3, 1) := by decide +kernel
theorem dX6_courseOf_155 : decode cX6_courseOf 155 = .ok (.getfield 94, 3) := by decide +kernel
theorem dX6_courseOf_158 : decode cX6_courseOf 158 = .ok (.isub, 1) := by decide +kernel
theorem dX6_courseOf_159 : decode cX6_courseOf 159 = .ok (.invokestatic 109, 3) := by decide +kernel
theorem dX6_courseOf_162 : decode cX6_courseOf 162 = .ok (.ireturn, 1) := by decide +kernel
theorem dX6_courseOf_163 : decode cX6_courseOf 163 = .ok (.aload_n 3, 1) := by decide +kernel
theorem dX6_courseOf_164 : decode cX6_courseOf 164 = .ok (.getfield 115, 3) := by decide +kernel
theorem dX6_courseOf_167 : decode cX6_courseOf 167 = .ok (.ireturn, 1) := by decide +kernel
theorem dX6_courseOf_168 : decode cX6_courseOf 168 = .ok (.ldc 69, 2) := by decide +kernel
theorem dX6_courseOf_170 : decode cX6_courseOf 170 = .ok (.ireturn, 1) := by decide +kernel
theorem dX6_member_0 : decode cX6_member 0 = .ok (.aload_n 0, 1) := by decide +kernel
theorem dX6_member_1 : decode cX6_member 1 = .ok (.getfield 10, 3) := by decide +kernel
theorem dX6_member_4 : decode cX6_member 4 = .ok (.iload_n 1, 1) := by decide +kernel
theorem dX6_member_5 : decode cX6_member 5 = .ok (.invokevirtual 65, 3) := by decide +kernel
theorem dX6_member_8 : decode cX6_member 8 = .ok (.astore_n 3, 1) := by decide +kernel
theorem dX6_member_9 : decode cX6_member 9 = .ok (.aload_n 3, 1) := by decide +kernel
theorem dX6_member_10 : decode cX6_member 10 = .ok (.ifnull 7, 3) := by decide +kernel
theorem dX6_member_13 : decode cX6_member 13 = .ok (.iload_n 2, 1) := by decide +kernel
theorem dX6_member_14 : decode cX6_member 14 = .ok (.ifCond .ge 6, 3) := by decide +kernel
theorem dX6_member_17 : decode cX6_member 17 = .ok (.ldc 69, 2) := by decide +kernel
theorem dX6_member_19 : decode cX6_member 19 = .ok (.ireturn, 1) := by decide +kernel
theorem dX6_member_20 : decode cX6_member 20 = .ok (.aload_n 3, 1) := by decide +kernel
theorem dX6_member_21 : decode cX6_member 21 = .ok (.iload_n 2, 1) := by decide +kernel
theorem dX6_member_22 : decode cX6_member 22 = .ok (.invokevirtual 118, 3) := by decide +kernel
theorem dX6_member_25 : decode cX6_member 25 = .ok (.invokestatic 103, 3) := by decide +kernel
theorem dX6_member_28 : decode cX6_member 28 = .ok (.ireturn, 1) := by decide +kernel
theorem dX6_waits_0 : decode cX6_waits 0 = .ok (.aload_n 0, 1) := by decide +kernel
theorem dX6_waits_1 : decode cX6_waits 1 = .ok (.getfield 10, 3) := by decide +kernel
theorem dX6_waits_4 : decode cX6_waits 4 = .ok (.iload_n 1, 1) := by decide +kernel
theorem dX6_waits_5 : decode cX6_waits 5 = .ok (.invokevirtual 65, 3) := by decide +kernel
theorem dX6_waits_8 : decode cX6_waits 8 = .ok (.ifnull 7, 3) := by decide +kernel
theorem dX6_waits_11 : decode cX6_waits 11 = .ok (.iload_n 2, 1) := by decide +kernel
theorem dX6_waits_12 : decode cX6_waits 12 = .ok (.ifCond .ge 6, 3) := by decide +kernel
theorem dX6_waits_15 : decode cX6_waits 15 = .ok (.ldc 69, 2) := by decide +kernel
theorem dX6_waits_17 : decode cX6_waits 17 = .ok (.ireturn, 1) := by decide +kernel
theorem dX6_waits_18 : decode cX6_waits 18 = .ok (.aload_n 0, 1) := by decide +kernel
theorem dX6_waits_19 : decode cX6_waits 19 = .ok (.getfield 10, 3) := by decide +kernel
theorem dX6_waits_22 : decode cX6_waits 22 = .ok (.iload_n 1, 1) := by decide +kernel
theorem dX6_waits_23 : decode cX6_waits 23 = .ok (.iload_n 2, 1) := by decide +kernel
theorem dX6_waits_24 : decode cX6_waits 24 = .ok (.invokevirtual 121, 3) := by decide +kernel
theorem dX6_waits_27 : decode cX6_waits 27 = .ok (.invokestatic 103, 3) := by decide +kernel
theorem dX6_waits_30 : decode cX6_waits 30 = .ok (.ireturn, 1) := by decide +kernel
theorem dX6_personOf_0 : decode cX6_personOf 0 = .ok (.aload_n 0, 1) := by decide +kernel
theorem dX6_personOf_1 : decode cX6_personOf 1 = .ok (.getfield 10, 3) := by decide +kernel
theorem dX6_personOf_4 : decode cX6_personOf 4 = .ok (.iload_n 1, 1) := by decide +kernel
theorem dX6_personOf_5 : decode cX6_personOf 5 = .ok (.invokevirtual 124, 3) := by decide +kernel
theorem dX6_personOf_8 : decode cX6_personOf 8 = .ok (.astore_n 3, 1) := by decide +kernel
theorem dX6_personOf_9 : decode cX6_personOf 9 = .ok (.aload_n 3, 1) := by decide +kernel
theorem dX6_personOf_10 : decode cX6_personOf 10 = .ok (.ifnonnull 6, 3) := by decide +kernel
theorem dX6_personOf_13 : decode cX6_personOf 13 = .ok (.ldc 69, 2) := by decide +kernel
theorem dX6_personOf_15 : decode cX6_personOf 15 = .ok (.ireturn, 1) := by decide +kernel
theorem dX6_personOf_16 : decode cX6_personOf 16 = .ok (.iload_n 2, 1) := by decide +kernel
theorem dX6_personOf_17 : decode cX6_personOf 17 = .ok (.tableswitch 107 0 7 #[47, 60, 68, 73, 78, 83, 91, 99], 47) := by decide +kernel
theorem dX6_personOf_64 : decode cX6_personOf 64 = .ok (.aload_n 3, 1) := by decide +kernel
theorem dX6_personOf_65 : decode cX6_personOf 65 = .ok (.getfield 128, 3) := by decide +kernel
theorem dX6_personOf_68 : decode cX6_personOf 68 = .ok (.ifCond .eq 7, 3) := by decide +kernel
theorem dX6_personOf_71 : decode cX6_personOf 71 = .ok (.iconst 1, 1) := by decide +kernel
theorem dX6_personOf_72 : decode cX6_personOf 72 = .ok (.goto 4, 3) := by decide +kernel
theorem dX6_personOf_75 : decode cX6_personOf 75 = .ok (.iconst 0, 1) := by decide +kernel
theorem dX6_personOf_76 : decode cX6_personOf 76 = .ok (.ireturn, 1) := by decide +kernel
theorem dX6_personOf_77 : decode cX6_personOf 77 = .ok (.aload_n 3, 1) := by decide +kernel
theorem dX6_personOf_78 : decode cX6_personOf 78 = .ok (.getfield 134, 3) := by decide +kernel
theorem dX6_personOf_81 : decode cX6_personOf 81 = .ok (.invokestatic 103, 3) := by decide +kernel
theorem dX6_personOf_84 : decode cX6_personOf 84 = .ok (.ireturn, 1) := by decide +kernel
theorem dX6_personOf_85 : decode cX6_personOf 85 = .ok (.aload_n 3, 1) := by decide +kernel
theorem dX6_personOf_86 : decode cX6_personOf 86 = .ok (.invokevirtual 137, 3) := by decide +kernel
theorem dX6_personOf_89 : decode cX6_personOf 89 = .ok (.ireturn, 1) := by decide +kernel
theorem dX6_personOf_90 : decode cX6_personOf 90 = .ok (.aload_n 3, 1) := by decide +kernel
theorem dX6_personOf_91 : decode cX6_personOf 91 = .ok (.getfield 140, 3) := by decide +kernel
theorem dX6_personOf_94 : decode cX6_personOf 94 = .ok (.ireturn, 1) := by decide +kernel
theorem dX6_personOf_95 : decode cX6_personOf 95 = .ok (.aload_n 3, 1) := by decide +kernel
theorem dX6_personOf_96 : decode cX6_personOf 96 = .ok (.getfield 143, 3) := by decide +kernel
theorem dX6_personOf_99 : decode cX6_personOf 99 = .ok (.ireturn, 1) := by decide +kernel
theorem dX6_personOf_100 : decode cX6_personOf 100 = .ok (.aload_n 3, 1) := by decide +kernel
theorem dX6_personOf_101 : decode cX6_personOf 101 = .ok (.getfield 146, 3) := by decide +kernel
theorem dX6_personOf_104 : decode cX6_personOf 104 = .ok (.invokestatic 103, 3) := by decide +kernel
theorem dX6_personOf_107 : decode cX6_personOf 107 = .ok (.ireturn, 1) := by decide +kernel
theorem dX6_personOf_108 : decode cX6_personOf 108 = .ok (.aload_n 3, 1) := by decide +kernel
theorem dX6_personOf_109 : decode cX6_personOf 109 = .ok (.getfield 149, 3) := by decide +kernel
theorem dX6_personOf_112 : decode cX6_personOf 112 = .ok (.invokestatic 103, 3) := by decide +kernel
theorem dX6_personOf_115 : decode cX6_personOf 115 = .ok (.ireturn, 1) := by decide +kernel
theorem dX6_personOf_116 : decode cX6_personOf 116 = .ok (.aload_n 3, 1) := by decide +kernel
theorem dX6_personOf_117 : decode cX6_personOf 117 = .ok (.getfield 152, 3) := by decide +kernel
theorem dX6_personOf_120 : decode cX6_personOf 120 = .ok (.invokestatic 103, 3) := by decide +kernel
theorem dX6_personOf_123 : decode cX6_personOf 123 = .ok (.ireturn, 1) := by decide +kernel
theorem dX6_personOf_124 : decode cX6_personOf 124 = .ok (.ldc 69, 2) := by decide +kernel
theorem dX6_personOf_126 : decode cX6_personOf 126 = .ok (.ireturn, 1) := by decide +kernel
theorem dX6_roomOf_0 : decode cX6_roomOf 0 = .ok (.aload_n 0, 1) := by decide +kernel
theorem dX6_roomOf_1 : decode cX6_roomOf 1 = .ok (.getfield 10, 3) := by decide +kernel
theorem dX6_roomOf_4 : decode cX6_roomOf 4 = .ok (.iload_n 1, 1) := by decide +kernel
theorem dX6_roomOf_5 : decode cX6_roomOf 5 = .ok (.invokevirtual 155, 3) := by decide +kernel
theorem dX6_roomOf_8 : decode cX6_roomOf 8 = .ok (.ifCond .ne 6, 3) := by decide +kernel
theorem dX6_roomOf_11 : decode cX6_roomOf 11 = .ok (.ldc 69, 2) := by decide +kernel
theorem dX6_roomOf_13 : decode cX6_roomOf 13 = .ok (.ireturn, 1) := by decide +kernel
theorem dX6_roomOf_14 : decode cX6_roomOf 14 = .ok (.iload_n 2, 1) := by decide +kernel
theorem dX6_roomOf_15 : decode cX6_roomOf 15 = .ok (.tableswitch 55 0 2 #[25, 34, 43], 25) := by decide +kernel
theorem dX6_roomOf_40 : decode cX6_roomOf 40 = .ok (.aload_n 0, 1) := by decide +kernel
theorem dX6_roomOf_41 : decode cX6_roomOf 41 = .ok (.getfield 10, 3) := by decide +kernel
theorem dX6_roomOf_44 : decode cX6_roomOf 44 = .ok (.iload_n 1, 1) := by decide +kernel
theorem dX6_roomOf_45 : decode cX6_roomOf 45 = .ok (.invokevirtual 159, 3) := by decide +kernel
theorem dX6_roomOf_48 : decode cX6_roomOf 48 = .ok (.ireturn, 1) := by decide +kernel
theorem dX6_roomOf_49 : decode cX6_roomOf 49 = .ok (.aload_n 0, 1) := by decide +kernel
theorem dX6_roomOf_50 : decode cX6_roomOf 50 = .ok (.getfield 10, 3) := by decide +kernel
theorem dX6_roomOf_53 : decode cX6_roomOf 53 = .ok (.iload_n 1, 1) := by decide +kernel
theorem dX6_roomOf_54 : decode cX6_roomOf 54 = .ok (.invokevirtual 162, 3) := by decide +kernel
theorem dX6_roomOf_57 : decode cX6_roomOf 57 = .ok (.ireturn, 1) := by decide +kernel
theorem dX6_roomOf_58 : decode cX6_roomOf 58 = .ok (.aload_n 0, 1) := by decide +kernel
theorem dX6_roomOf_59 : decode cX6_roomOf 59 = .ok (.getfield 10, 3) := by decide +kernel
theorem dX6_roomOf_62 : decode cX6_roomOf 62 = .ok (.iload_n 1, 1) := by decide +kernel
theorem dX6_roomOf_63 : decode cX6_roomOf 63 = .ok (.invokevirtual 165, 3) := by decide +kernel
theorem dX6_roomOf_66 : decode cX6_roomOf 66 = .ok (.invokestatic 103, 3) := by decide +kernel
theorem dX6_roomOf_69 : decode cX6_roomOf 69 = .ok (.ireturn, 1) := by decide +kernel
theorem dX6_roomOf_70 : decode cX6_roomOf 70 = .ok (.ldc 69, 2) := by decide +kernel
theorem dX6_roomOf_72 : decode cX6_roomOf 72 = .ok (.ireturn, 1) := by decide +kernel
theorem dX6_ifClose_0 : decode cX6_ifClose 0 = .ok (.iload_n 1, 1) := by decide +kernel
theorem dX6_ifClose_1 : decode cX6_ifClose 1 = .ok (.iconst 0, 1) := by decide +kernel
theorem dX6_ifClose_2 : decode cX6_ifClose 2 = .ok (.iconst 5, 1) := by decide +kernel
theorem dX6_ifClose_3 : decode cX6_ifClose 3 = .ok (.invokestatic 168, 3) := by decide +kernel
theorem dX6_ifClose_6 : decode cX6_ifClose 6 = .ok (.ifCond .eq 6, 3) := by decide +kernel
theorem dX6_ifClose_9 : decode cX6_ifClose 9 = .ok (.ldc 69, 2) := by decide +kernel
theorem dX6_ifClose_11 : decode cX6_ifClose 11 = .ok (.ireturn, 1) := by decide +kernel
theorem dX6_ifClose_12 : decode cX6_ifClose 12 = .ok (.aload_n 0, 1) := by decide +kernel
theorem dX6_ifClose_13 : decode cX6_ifClose 13 = .ok (.getfield 10, 3) := by decide +kernel
theorem dX6_ifClose_16 : decode cX6_ifClose 16 = .ok (.getfield 172, 3) := by decide +kernel
theorem dX6_ifClose_19 : decode cX6_ifClose 19 = .ok (.ifCond .eq 6, 3) := by decide +kernel
theorem dX6_ifClose_22 : decode cX6_ifClose 22 = .ok (.ldc 175, 2) := by decide +kernel
theorem dX6_ifClose_24 : decode cX6_ifClose 24 = .ok (.ireturn, 1) := by decide +kernel
theorem dX6_ifClose_25 : decode cX6_ifClose 25 = .ok (.aload_n 0, 1) := by decide +kernel
theorem dX6_ifClose_26 : decode cX6_ifClose 26 = .ok (.getfield 16, 3) := by decide +kernel
theorem dX6_ifClose_29 : decode cX6_ifClose 29 = .ok (.aload_n 0, 1) := by decide +kernel
theorem dX6_ifClose_30 : decode cX6_ifClose 30 = .ok (.getfield 10, 3) := by decide +kernel
theorem dX6_ifClose_33 : decode cX6_ifClose 33 = .ok (.invokevirtual 176, 3) := by decide +kernel
theorem dX6_ifClose_36 : decode cX6_ifClose 36 = .ok (.aload_n 0, 1) := by decide +kernel
theorem dX6_ifClose_37 : decode cX6_ifClose 37 = .ok (.getfield 16, 3) := by decide +kernel
theorem dX6_ifClose_40 : decode cX6_ifClose 40 = .ok (.invokevirtual 58, 3) := by decide +kernel
theorem dX6_ifClose_43 : decode cX6_ifClose 43 = .ok (.pop, 1) := by decide +kernel
theorem dX6_ifClose_44 : decode cX6_ifClose 44 = .ok (.iload_n 1, 1) := by decide +kernel
theorem dX6_ifClose_45 : decode cX6_ifClose 45 = .ok (.tableswitch 86 0 4 #[35, 44, 53, 62, 70], 35) := by decide +kernel
theorem dX6_ifClose_80 : decode cX6_ifClose 80 = .ok (.aload_n 0, 1) := by decide +kernel
theorem dX6_ifClose_81 : decode cX6_ifClose 81 = .ok (.getfield 16, 3) := by decide +kernel
theorem dX6_ifClose_84 : decode cX6_ifClose 84 = .ok (.iconst 1, 1) := by decide +kernel
theorem dX6_ifClose_85 : decode cX6_ifClose 85 = .ok (.invokevirtual 179, 3) := by decide +kernel
theorem dX6_ifClose_88 : decode cX6_ifClose 88 = .ok (.ireturn, 1) := by decide +kernel
theorem dX6_ifClose_89 : decode cX6_ifClose 89 = .ok (.aload_n 0, 1) := by decide +kernel
theorem dX6_ifClose_90 : decode cX6_ifClose 90 = .ok (.getfield 16, 3) := by decide +kernel
theorem dX6_ifClose_93 : decode cX6_ifClose 93 = .ok (.iconst 2, 1) := by decide +kernel
theorem dX6_ifClose_94 : decode cX6_ifClose 94 = .ok (.invokevirtual 179, 3) := by decide +kernel
theorem dX6_ifClose_97 : decode cX6_ifClose 97 = .ok (.ireturn, 1) := by decide +kernel
theorem dX6_ifClose_98 : decode cX6_ifClose 98 = .ok (.aload_n 0, 1) := by decide +kernel
theorem dX6_ifClose_99 : decode cX6_ifClose 99 = .ok (.getfield 16, 3) := by decide +kernel
theorem dX6_ifClose_102 : decode cX6_ifClose 102 = .ok (.iconst 3, 1) := by decide +kernel
theorem dX6_ifClose_103 : decode cX6_ifClose 103 = .ok (.invokevirtual 179, 3) := by decide +kernel
theorem dX6_ifClose_106 : decode cX6_ifClose 106 = .ok (.ireturn, 1) := by decide +kernel
theorem dX6_ifClose_107 : decode cX6_ifClose 107 = .ok (.aload_n 0, 1) := by decide +kernel
theorem dX6_ifClose_108 : decode cX6_ifClose 108 = .ok (.getfield 16, 3) := by decide +kernel
theorem dX6_ifClose_111 : decode cX6_ifClose 111 = .ok (.invokevirtual 182, 3) := by decide +kernel
theorem dX6_ifClose_114 : decode cX6_ifClose 114 = .ok (.ireturn, 1) := by decide +kernel
theorem dX6_ifClose_115 : decode cX6_ifClose 115 = .ok (.aload_n 0, 1) := by decide +kernel
theorem dX6_ifClose_116 : decode cX6_ifClose 116 = .ok (.getfield 16, 3) := by decide +kernel
theorem dX6_ifClose_119 : decode cX6_ifClose 119 = .ok (.getfield 185, 3) := by decide +kernel
theorem dX6_ifClose_122 : decode cX6_ifClose 122 = .ok (.aload_n 0, 1) := by decide +kernel
theorem dX6_ifClose_123 : decode cX6_ifClose 123 = .ok (.getfield 10, 3) := by decide +kernel
theorem dX6_ifClose_126 : decode cX6_ifClose 126 = .ok (.getfield 185, 3) := by decide +kernel
theorem dX6_ifClose_129 : decode cX6_ifClose 129 = .ok (.isub, 1) := by decide +kernel
theorem dX6_ifClose_130 : decode cX6_ifClose 130 = .ok (.ireturn, 1) := by decide +kernel
theorem dX6_ifClose_131 : decode cX6_ifClose 131 = .ok (.aload_n 0, 1) := by decide +kernel
theorem dX6_ifClose_132 : decode cX6_ifClose 132 = .ok (.getfield 16, 3) := by decide +kernel
theorem dX6_ifClose_135 : decode cX6_ifClose 135 = .ok (.getfield 188, 3) := by decide +kernel
theorem dX6_ifClose_138 : decode cX6_ifClose 138 = .ok (.aload_n 0, 1) := by decide +kernel
theorem dX6_ifClose_139 : decode cX6_ifClose 139 = .ok (.getfield 10, 3) := by decide +kernel
theorem dX6_ifClose_142 : decode cX6_ifClose 142 = .ok (.getfield 188, 3) := by decide +kernel
theorem dX6_ifClose_145 : decode cX6_ifClose 145 = .ok (.isub, 1) := by decide +kernel
theorem dX6_ifClose_146 : decode cX6_ifClose 146 = .ok (.ireturn, 1) := by decide +kernel
theorem dX6_beside_0 : decode cX6_beside 0 = .ok (.aload_n 0, 1) := by decide +kernel
theorem dX6_beside_1 : decode cX6_beside 1 = .ok (.getfield 10, 3) := by decide +kernel
theorem dX6_beside_4 : decode cX6_beside 4 = .ok (.iload_n 1, 1) := by decide +kernel
theorem dX6_beside_5 : decode cX6_beside 5 = .ok (.invokevirtual 65, 3) := by decide +kernel
theorem dX6_beside_8 : decode cX6_beside 8 = .ok (.astore_n 2, 1) := by decide +kernel
theorem dX6_beside_9 : decode cX6_beside 9 = .ok (.aload_n 2, 1) := by decide +kernel
theorem dX6_beside_10 : decode cX6_beside 10 = .ok (.ifnonnull 6, 3) := by decide +kernel
theorem dX6_beside_13 : decode cX6_beside 13 = .ok (.ldc 69, 2) := by decide +kernel
theorem dX6_beside_15 : decode cX6_beside 15 = .ok (.ireturn, 1) := by decide +kernel
theorem dX6_beside_16 : decode cX6_beside 16 = .ok (.aload_n 2, 1) := by decide +kernel
theorem dX6_beside_17 : decode cX6_beside 17 = .ok (.getfield 91, 3) := by decide +kernel
theorem dX6_beside_20 : decode cX6_beside 20 = .ok (.ifCond .eq 6, 3) := by decide +kernel
theorem dX6_beside_23 : decode cX6_beside 23 = .ok (.ldc 175, 2) := by decide +kernel
theorem dX6_beside_25 : decode cX6_beside 25 = .ok (.ireturn, 1) := by decide +kernel
theorem dX6_beside_26 : decode cX6_beside 26 = .ok (.aload_n 0, 1) := by decide +kernel
theorem dX6_beside_27 : decode cX6_beside 27 = .ok (.getfield 10, 3) := by decide +kernel
theorem dX6_beside_30 : decode cX6_beside 30 = .ok (.aload_n 2, 1) := by decide +kernel
theorem dX6_beside_31 : decode cX6_beside 31 = .ok (.invokevirtual 189, 3) := by decide +kernel
theorem dX6_beside_34 : decode cX6_beside 34 = .ok (.astore_n 3, 1) := by decide +kernel
theorem dX6_beside_35 : decode cX6_beside 35 = .ok (.aload_n 3, 1) := by decide +kernel
theorem dX6_beside_36 : decode cX6_beside 36 = .ok (.ifnonnull 8, 3) := by decide +kernel
theorem dX6_beside_39 : decode cX6_beside 39 = .ok (.ldc 193, 2) := by decide +kernel
theorem dX6_beside_41 : decode cX6_beside 41 = .ok (.goto 7, 3) := by decide +kernel
theorem dX6_beside_44 : decode cX6_beside 44 = .ok (.aload_n 3, 1) := by decide +kernel
theorem dX6_beside_45 : decode cX6_beside 45 = .ok (.getfield 194, 3) := by decide +kernel
theorem dX6_beside_48 : decode cX6_beside 48 = .ok (.ireturn, 1) := by decide +kernel
theorem dX6_ifJoin_0 : decode cX6_ifJoin 0 = .ok (.aload_n 0, 1) := by decide +kernel
theorem dX6_ifJoin_1 : decode cX6_ifJoin 1 = .ok (.getfield 10, 3) := by decide +kernel
theorem dX6_ifJoin_4 : decode cX6_ifJoin 4 = .ok (.iload_n 1, 1) := by decide +kernel
theorem dX6_ifJoin_5 : decode cX6_ifJoin 5 = .ok (.invokevirtual 65, 3) := by decide +kernel
theorem dX6_ifJoin_8 : decode cX6_ifJoin 8 = .ok (.astore_n 2, 1) := by decide +kernel
theorem dX6_ifJoin_9 : decode cX6_ifJoin 9 = .ok (.aload_n 2, 1) := by decide +kernel
theorem dX6_ifJoin_10 : decode cX6_ifJoin 10 = .ok (.ifnonnull 6, 3) := by decide +kernel
theorem dX6_ifJoin_13 : decode cX6_ifJoin 13 = .ok (.ldc 69, 2) := by decide +kernel
theorem dX6_ifJoin_15 : decode cX6_ifJoin 15 = .ok (.ireturn, 1) := by decide +kernel
theorem dX6_ifJoin_16 : decode cX6_ifJoin 16 = .ok (.aload_n 0, 1) := by decide +kernel
theorem dX6_ifJoin_17 : decode cX6_ifJoin 17 = .ok (.getfield 10, 3) := by decide +kernel
theorem dX6_ifJoin_20 : decode cX6_ifJoin 20 = .ok (.getfield 172, 3) := by decide +kernel
theorem dX6_ifJoin_23 : decode cX6_ifJoin 23 = .ok (.ifCond .eq 6, 3) := by decide +kernel
theorem dX6_ifJoin_26 : decode cX6_ifJoin 26 = .ok (.ldc 175, 2) := by decide +kernel
theorem dX6_ifJoin_28 : decode cX6_ifJoin 28 = .ok (.ireturn, 1) := by decide +kernel
theorem dX6_ifJoin_29 : decode cX6_ifJoin 29 = .ok (.aload_n 0, 1) := by decide +kernel
theorem dX6_ifJoin_30 : decode cX6_ifJoin 30 = .ok (.getfield 10, 3) := by decide +kernel
theorem dX6_ifJoin_33 : decode cX6_ifJoin 33 = .ok (.getfield 197, 3) := by decide +kernel
theorem dX6_ifJoin_36 : decode cX6_ifJoin 36 = .ok (.bipush 30, 2) := by decide +kernel
theorem dX6_ifJoin_38 : decode cX6_ifJoin 38 = .ok (.if_icmp .lt 6, 3) := by decide +kernel
theorem dX6_ifJoin_41 : decode cX6_ifJoin 41 = .ok (.ldc 200, 2) := by decide +kernel
theorem dX6_ifJoin_43 : decode cX6_ifJoin 43 = .ok (.ireturn, 1) := by decide +kernel
theorem dX6_ifJoin_44 : decode cX6_ifJoin 44 = .ok (.aload_n 2, 1) := by decide +kernel
theorem dX6_ifJoin_45 : decode cX6_ifJoin 45 = .ok (.invokevirtual 201, 3) := by decide +kernel
theorem dX6_ifJoin_48 : decode cX6_ifJoin 48 = .ok (.ifCond .eq 7, 3) := by decide +kernel
theorem dX6_ifJoin_51 : decode cX6_ifJoin 51 = .ok (.iconst 0, 1) := by decide +kernel
theorem dX6_ifJoin_52 : decode cX6_ifJoin 52 = .ok (.goto 4, 3) := by decide +kernel
theorem dX6_ifJoin_55 : decode cX6_ifJoin 55 = .ok (.iconst 4, 1) := by decide +kernel
theorem dX6_ifJoin_56 : decode cX6_ifJoin 56 = .ok (.ireturn, 1) := by decide +kernel
theorem dX6_mean_0 : decode cX6_mean 0 = .ok (.aload_n 0, 1) := by decide +kernel
theorem dX6_mean_1 : decode cX6_mean 1 = .ok (.getfield 10, 3) := by decide +kernel
theorem dX6_mean_4 : decode cX6_mean 4 = .ok (.invokevirtual 205, 3) := by decide +kernel
theorem dX6_mean_7 : decode cX6_mean 7 = .ok (.istore_n 1, 1) := by decide +kernel
theorem dX6_mean_8 : decode cX6_mean 8 = .ok (.iload_n 1, 1) := by decide +kernel
theorem dX6_mean_9 : decode cX6_mean 9 = .ok (.ifCond .gt 6, 3) := by decide +kernel
theorem dX6_mean_12 : decode cX6_mean 12 = .ok (.ldc 193, 2) := by decide +kernel
theorem dX6_mean_14 : decode cX6_mean 14 = .ok (.ireturn, 1) := by decide +kernel
theorem dX6_mean_15 : decode cX6_mean 15 = .ok (.aload_n 0, 1) := by decide +kernel
theorem dX6_mean_16 : decode cX6_mean 16 = .ok (.getfield 10, 3) := by decide +kernel
theorem dX6_mean_19 : decode cX6_mean 19 = .ok (.invokevirtual 208, 3) := by decide +kernel
theorem dX6_mean_22 : decode cX6_mean 22 = .ok (.i2f, 1) := by decide +kernel
theorem dX6_mean_23 : decode cX6_mean 23 = .ok (.iload_n 1, 1) := by decide +kernel
theorem dX6_mean_24 : decode cX6_mean 24 = .ok (.i2f, 1) := by decide +kernel
theorem dX6_mean_25 : decode cX6_mean 25 = .ok (.fdiv, 1) := by decide +kernel
theorem dX6_mean_26 : decode cX6_mean 26 = .ok (.invokestatic 211, 3) := by decide +kernel
theorem dX6_mean_29 : decode cX6_mean 29 = .ok (.ireturn, 1) := by decide +kernel
theorem dX6_count_0 : decode cX6_count 0 = .ok (.iload_n 1, 1) := by decide +kernel
theorem dX6_count_1 : decode cX6_count 1 = .ok (.tableswitch 240 0 17 #[87, 95, 103, 111, 119, 127, 136, 144, 152, 168, 176, 184, 192, 200, 208, 216, 224, 232], 87) := by decide +kernel
theorem dX6_count_88 : decode cX6_count 88 = .ok (.aload_n 0, 1) := by decide +kernel
theorem dX6_count_89 : decode cX6_count 89 = .ok (.getfield 10, 3) := by decide +kernel
theorem dX6_count_92 : decode cX6_count 92 = .ok (.getfield 215, 3) := by decide +kernel
theorem dX6_count_95 : decode cX6_count 95 = .ok (.ireturn, 1) := by decide +kernel
theorem dX6_count_96 : decode cX6_count 96 = .ok (.aload_n 0, 1) := by decide +kernel
theorem dX6_count_97 : decode cX6_count 97 = .ok (.getfield 10, 3) := by decide +kernel
theorem dX6_count_100 : decode cX6_count 100 = .ok (.getfield 218, 3) := by decide +kernel
theorem dX6_count_103 : decode cX6_count 103 = .ok (.ireturn, 1) := by decide +kernel
theorem dX6_count_104 : decode cX6_count 104 = .ok (.aload_n 0, 1) := by decide +kernel
theorem dX6_count_105 : decode cX6_count 105 = .ok (.getfield 10, 3) := by decide +kernel
theorem dX6_count_108 : decode cX6_count 108 = .ok (.getfield 197, 3) := by decide +kernel
theorem dX6_count_111 : decode cX6_count 111 = .ok (.ireturn, 1) := by decide +kernel
theorem dX6_count_112 : decode cX6_count 112 = .ok (.aload_n 0, 1) := by decide +kernel
theorem dX6_count_113 : decode cX6_count 113 = .ok (.getfield 10, 3) := by decide +kernel
theorem dX6_count_116 : decode cX6_count 116 = .ok (.invokevirtual 205, 3) := by decide +kernel
theorem dX6_count_119 : decode cX6_count 119 = .ok (.ireturn, 1) := by decide +kernel
theorem dX6_count_120 : decode cX6_count 120 = .ok (.aload_n 0, 1) := by decide +kernel
theorem dX6_count_121 : decode cX6_count 121 = .ok (.getfield 10, 3) := by decide +kernel
theorem dX6_count_124 : decode cX6_count 124 = .ok (.invokevirtual 182, 3) := by decide +kernel
theorem dX6_count_127 : decode cX6_count 127 = .ok (.ireturn, 1) := by decide +kernel
theorem dX6_count_128 : decode cX6_count 128 = .ok (.aload_n 0, 1) := by decide +kernel
theorem dX6_count_129 : decode cX6_count 129 = .ok (.getfield 10, 3) := by decide +kernel
theorem dX6_count_132 : decode cX6_count 132 = .ok (.iconst 0, 1) := by decide +kernel
theorem dX6_count_133 : decode cX6_count 133 = .ok (.invokevirtual 179, 3) := by decide +kernel
theorem dX6_count_136 : decode cX6_count 136 = .ok (.ireturn, 1) := by decide +kernel
theorem dX6_count_137 : decode cX6_count 137 = .ok (.aload_n 0, 1) := by decide +kernel
theorem dX6_count_138 : decode cX6_count 138 = .ok (.getfield 10, 3) := by decide +kernel
theorem dX6_count_141 : decode cX6_count 141 = .ok (.invokevirtual 221, 3) := by decide +kernel
theorem dX6_count_144 : decode cX6_count 144 = .ok (.ireturn, 1) := by decide +kernel
theorem dX6_count_145 : decode cX6_count 145 = .ok (.aload_n 0, 1) := by decide +kernel
theorem dX6_count_146 : decode cX6_count 146 = .ok (.getfield 10, 3) := by decide +kernel
theorem dX6_count_149 : decode cX6_count 149 = .ok (.getfield 224, 3) := by decide +kernel
theorem dX6_count_152 : decode cX6_count 152 = .ok (.ireturn, 1) := by decide +kernel
theorem dX6_count_153 : decode cX6_count 153 = .ok (.aload_n 0, 1) := by decide +kernel
theorem dX6_count_154 : decode cX6_count 154 = .ok (.getfield 10, 3) := by decide +kernel
theorem dX6_count_157 : decode cX6_count 157 = .ok (.getfield 172, 3) := by decide +kernel
theorem dX6_count_160 : decode cX6_count 160 = .ok (.ifCond .eq 7, 3) := by decide +kernel
theorem dX6_count_163 : decode cX6_count 163 = .ok (.iconst 1, 1) := by decide +kernel
theorem dX6_count_164 : decode cX6_count 164 = .ok (.goto 4, 3) := by decide +kernel
theorem dX6_count_167 : decode cX6_count 167 = .ok (.iconst 0, 1) := by decide +kernel
theorem dX6_count_168 : decode cX6_count 168 = .ok (.ireturn, 1) := by decide +kernel
theorem dX6_count_169 : decode cX6_count 169 = .ok (.aload_n 0, 1) := by decide +kernel
theorem dX6_count_170 : decode cX6_count 170 = .ok (.getfield 10, 3) := by decide +kernel
theorem dX6_count_173 : decode cX6_count 173 = .ok (.getfield 188, 3) := by decide +kernel
theorem dX6_count_176 : decode cX6_count 176 = .ok (.ireturn, 1) := by decide +kernel
theorem dX6_count_177 : decode cX6_count 177 = .ok (.aload_n 0, 1) := by decide +kernel
theorem dX6_count_178 : decode cX6_count 178 = .ok (.getfield 10, 3) := by decide +kernel
theorem dX6_count_181 : decode cX6_count 181 = .ok (.getfield 185, 3) := by decide +kernel
theorem dX6_count_184 : decode cX6_count 184 = .ok (.ireturn, 1) := by decide +kernel
theorem dX6_count_185 : decode cX6_count 185 = .ok (.aload_n 0, 1) := by decide +kernel
theorem dX6_count_186 : decode cX6_count 186 = .ok (.getfield 10, 3) := by decide +kernel
theorem dX6_count_189 : decode cX6_count 189 = .ok (.invokevirtual 225, 3) := by decide +kernel
theorem dX6_count_192 : decode cX6_count 192 = .ok (.ireturn, 1) := by decide +kernel
theorem dX6_count_193 : decode cX6_count 193 = .ok (.aload_n 0, 1) := by decide +kernel
theorem dX6_count_194 : decode cX6_count 194 = .ok (.getfield 10, 3) := by decide +kernel
theorem dX6_count_197 : decode cX6_count 197 = .ok (.getfield 228, 3) := by decide +kernel
theorem dX6_count_200 : decode cX6_count 200 = .ok (.ireturn, 1) := by decide +kernel
theorem dX6_count_201 : decode cX6_count 201 = .ok (.aload_n 0, 1) := by decide +kernel
theorem dX6_count_202 : decode cX6_count 202 = .ok (.getfield 10, 3) := by decide +kernel
theorem dX6_count_205 : decode cX6_count 205 = .ok (.getfield 231, 3) := by decide +kernel
theorem dX6_count_208 : decode cX6_count 208 = .ok (.ireturn, 1) := by decide +kernel
theorem dX6_count_209 : decode cX6_count 209 = .ok (.aload_n 0, 1) := by decide +kernel
theorem dX6_count_210 : decode cX6_count 210 = .ok (.getfield 10, 3) := by decide +kernel
theorem dX6_count_213 : decode cX6_count 213 = .ok (.getfield 234, 3) := by decide +kernel
theorem dX6_count_216 : decode cX6_count 216 = .ok (.ireturn, 1) := by decide +kernel
theorem dX6_count_217 : decode cX6_count 217 = .ok (.aload_n 0, 1) := by decide +kernel
theorem dX6_count_218 : decode cX6_count 218 = .ok (.getfield 10, 3) := by decide +kernel
theorem dX6_count_221 : decode cX6_count 221 = .ok (.getfield 237, 3) := by decide +kernel
theorem dX6_count_224 : decode cX6_count 224 = .ok (.ireturn, 1) := by decide +kernel
theorem dX6_count_225 : decode cX6_count 225 = .ok (.aload_n 0, 1) := by decide +kernel
theorem dX6_count_226 : decode cX6_count 226 = .ok (.getfield 22, 3) := by decide +kernel
theorem dX6_count_229 : decode cX6_count 229 = .ok (.getfield 240, 3) := by decide +kernel
theorem dX6_count_232 : decode cX6_count 232 = .ok (.ireturn, 1) := by decide +kernel
theorem dX6_count_233 : decode cX6_count 233 = .ok (.aload_n 0, 1) := by decide +kernel
theorem dX6_count_234 : decode cX6_count 234 = .ok (.getfield 29, 3) := by decide +kernel
theorem dX6_count_237 : decode cX6_count 237 = .ok (.getfield 241, 3) := by decide +kernel
theorem dX6_count_240 : decode cX6_count 240 = .ok (.ireturn, 1) := by decide +kernel
theorem dX6_count_241 : decode cX6_count 241 = .ok (.ldc 69, 2) := by decide +kernel
theorem dX6_count_243 : decode cX6_count 243 = .ok (.ireturn, 1) := by decide +kernel
theorem dX6_undo_0 : decode cX6_undo 0 = .ok (.aload_n 0, 1) := by decide +kernel
theorem dX6_undo_1 : decode cX6_undo 1 = .ok (.getfield 22, 3) := by decide +kernel
theorem dX6_undo_4 : decode cX6_undo 4 = .ok (.aload_n 0, 1) := by decide +kernel
theorem dX6_undo_5 : decode cX6_undo 5 = .ok (.getfield 10, 3) := by decide +kernel
theorem dX6_undo_8 : decode cX6_undo 8 = .ok (.invokevirtual 244, 3) := by decide +kernel
theorem dX6_undo_11 : decode cX6_undo 11 = .ok (.ireturn, 1) := by decide +kernel
theorem dX6_type_0 : decode cX6_type 0 = .ok (.iload_n 1, 1) := by decide +kernel
theorem dX6_type_1 : decode cX6_type 1 = .ok (.bipush 32, 2) := by decide +kernel
theorem dX6_type_3 : decode cX6_type 3 = .ok (.bipush 126, 2) := by decide +kernel
theorem dX6_type_5 : decode cX6_type 5 = .ok (.invokestatic 168, 3) := by decide +kernel
theorem dX6_type_8 : decode cX6_type 8 = .ok (.ifCond .eq 6, 3) := by decide +kernel
theorem dX6_type_11 : decode cX6_type 11 = .ok (.ldc 69, 2) := by decide +kernel
theorem dX6_type_13 : decode cX6_type 13 = .ok (.ireturn, 1) := by decide +kernel
theorem dX6_type_14 : decode cX6_type 14 = .ok (.aload_n 0, 1) := by decide +kernel
theorem dX6_type_15 : decode cX6_type 15 = .ok (.getfield 29, 3) := by decide +kernel
theorem dX6_type_18 : decode cX6_type 18 = .ok (.iload_n 1, 1) := by decide +kernel
theorem dX6_type_19 : decode cX6_type 19 = .ok (.i2c, 1) := by decide +kernel
theorem dX6_type_20 : decode cX6_type 20 = .ok (.invokevirtual 248, 3) := by decide +kernel
theorem dX6_type_23 : decode cX6_type 23 = .ok (.ireturn, 1) := by decide +kernel
theorem dX6_clearText_0 : decode cX6_clearText 0 = .ok (.aload_n 0, 1) := by decide +kernel
theorem dX6_clearText_1 : decode cX6_clearText 1 = .ok (.getfield 29, 3) := by decide +kernel
theorem dX6_clearText_4 : decode cX6_clearText 4 = .ok (.getfield 241, 3) := by decide +kernel
theorem dX6_clearText_7 : decode cX6_clearText 7 = .ok (.istore_n 1, 1) := by decide +kernel
theorem dX6_clearText_8 : decode cX6_clearText 8 = .ok (.aload_n 0, 1) := by decide +kernel
theorem dX6_clearText_9 : decode cX6_clearText 9 = .ok (.getfield 29, 3) := by decide +kernel
theorem dX6_clearText_12 : decode cX6_clearText 12 = .ok (.iconst 0, 1) := by decide +kernel
theorem dX6_clearText_13 : decode cX6_clearText 13 = .ok (.putfield 241, 3) := by decide +kernel
theorem dX6_clearText_16 : decode cX6_clearText 16 = .ok (.iload_n 1, 1) := by decide +kernel
theorem dX6_clearText_17 : decode cX6_clearText 17 = .ok (.ireturn, 1) := by decide +kernel
theorem dX6_fault_0 : decode cX6_fault 0 = .ok (.iload_n 1, 1) := by decide +kernel
theorem dX6_fault_1 : decode cX6_fault 1 = .ok (.iconst 0, 1) := by decide +kernel
theorem dX6_fault_2 : decode cX6_fault 2 = .ok (.iconst 2, 1) := by decide +kernel
theorem dX6_fault_3 : decode cX6_fault 3 = .ok (.invokestatic 168, 3) := by decide +kernel
theorem dX6_fault_6 : decode cX6_fault 6 = .ok (.ifCond .eq 6, 3) := by decide +kernel
theorem dX6_fault_9 : decode cX6_fault 9 = .ok (.ldc 69, 2) := by decide +kernel
theorem dX6_fault_11 : decode cX6_fault 11 = .ok (.ireturn, 1) := by decide +kernel
theorem dX6_fault_12 : decode cX6_fault 12 = .ok (.aload_n 0, 1) := by decide +kernel
theorem dX6_fault_13 : decode cX6_fault 13 = .ok (.getfield 16, 3) := by decide +kernel
theorem dX6_fault_16 : decode cX6_fault 16 = .ok (.aload_n 0, 1) := by decide +kernel
theorem dX6_fault_17 : decode cX6_fault 17 = .ok (.getfield 10, 3) := by decide +kernel
theorem dX6_fault_20 : decode cX6_fault 20 = .ok (.invokevirtual 176, 3) := by decide +kernel
theorem dX6_fault_23 : decode cX6_fault 23 = .ok (.aload_n 0, 1) := by decide +kernel
theorem dX6_fault_24 : decode cX6_fault 24 = .ok (.getfield 29, 3) := by decide +kernel
theorem dX6_fault_27 : decode cX6_fault 27 = .ok (.aload_n 0, 1) := by decide +kernel
theorem dX6_fault_28 : decode cX6_fault 28 = .ok (.getfield 16, 3) := by decide +kernel
theorem dX6_fault_31 : decode cX6_fault 31 = .ok (.invokevirtual 252, 3) := by decide +kernel
theorem dX6_fault_34 : decode cX6_fault 34 = .ok (.aload_n 0, 1) := by decide +kernel
theorem dX6_fault_35 : decode cX6_fault 35 = .ok (.getfield 29, 3) := by decide +kernel
theorem dX6_fault_38 : decode cX6_fault 38 = .ok (.getfield 255, 3) := by decide +kernel
theorem dX6_fault_41 : decode cX6_fault 41 = .ok (.ifCond .ne 6, 3) := by decide +kernel
theorem dX6_fault_44 : decode cX6_fault 44 = .ok (.ldc 193, 2) := by decide +kernel
theorem dX6_fault_46 : decode cX6_fault 46 = .ok (.ireturn, 1) := by decide +kernel
theorem dX6_fault_47 : decode cX6_fault 47 = .ok (.iload_n 1, 1) := by decide +kernel
theorem dX6_fault_48 : decode cX6_fault 48 = .ok (.lookupswitch 44 #[(0, 28), (1, 36)], 28) := by decide +kernel
theorem dX6_fault_76 : decode cX6_fault 76 = .ok (.aload_n 0, 1) := by decide +kernel
theorem dX6_fault_77 : decode cX6_fault 77 = .ok (.getfield 29, 3) := by decide +kernel
theorem dX6_fault_80 : decode cX6_fault 80 = .ok (.getfield 258, 3) := by decide +kernel
theorem dX6_fault_83 : decode cX6_fault 83 = .ok (.ireturn, 1) := by decide +kernel
theorem dX6_fault_84 : decode cX6_fault 84 = .ok (.aload_n 0, 1) := by decide +kernel
theorem dX6_fault_85 : decode cX6_fault 85 = .ok (.getfield 29, 3) := by decide +kernel
theorem dX6_fault_88 : decode cX6_fault 88 = .ok (.getfield 255, 3) := by decide +kernel
theorem dX6_fault_91 : decode cX6_fault 91 = .ok (.ireturn, 1) := by decide +kernel
theorem dX6_fault_92 : decode cX6_fault 92 = .ok (.aload_n 0, 1) := by decide +kernel
theorem dX6_fault_93 : decode cX6_fault 93 = .ok (.getfield 29, 3) := by decide +kernel
theorem dX6_fault_96 : decode cX6_fault 96 = .ok (.getfield 261, 3) := by decide +kernel
theorem dX6_fault_99 : decode cX6_fault 99 = .ok (.ireturn, 1) := by decide +kernel
theorem dX6_play_0 : decode cX6_play 0 = .ok (.aload_n 0, 1) := by decide +kernel
theorem dX6_play_1 : decode cX6_play 1 = .ok (.getfield 16, 3) := by decide +kernel
theorem dX6_play_4 : decode cX6_play 4 = .ok (.aload_n 0, 1) := by decide +kernel
theorem dX6_play_5 : decode cX6_play 5 = .ok (.getfield 10, 3) := by decide +kernel
theorem dX6_play_8 : decode cX6_play 8 = .ok (.invokevirtual 176, 3) := by decide +kernel
theorem dX6_play_11 : decode cX6_play 11 = .ok (.aload_n 0, 1) := by decide +kernel
theorem dX6_play_12 : decode cX6_play 12 = .ok (.getfield 29, 3) := by decide +kernel
theorem dX6_play_15 : decode cX6_play 15 = .ok (.aload_n 0, 1) := by decide +kernel
theorem dX6_play_16 : decode cX6_play 16 = .ok (.getfield 16, 3) := by decide +kernel
theorem dX6_play_19 : decode cX6_play 19 = .ok (.invokevirtual 252, 3) := by decide +kernel
theorem dX6_play_22 : decode cX6_play 22 = .ok (.aload_n 0, 1) := by decide +kernel
theorem dX6_play_23 : decode cX6_play 23 = .ok (.getfield 29, 3) := by decide +kernel
theorem dX6_play_26 : decode cX6_play 26 = .ok (.getfield 255, 3) := by decide +kernel
theorem dX6_play_29 : decode cX6_play 29 = .ok (.ifCond .eq 6, 3) := by decide +kernel
theorem dX6_play_32 : decode cX6_play 32 = .ok (.ldc 175, 2) := by decide +kernel
theorem dX6_play_34 : decode cX6_play 34 = .ok (.ireturn, 1) := by decide +kernel
theorem dX6_play_35 : decode cX6_play 35 = .ok (.aload_n 0, 1) := by decide +kernel
theorem dX6_play_36 : decode cX6_play 36 = .ok (.getfield 22, 3) := by decide +kernel
theorem dX6_play_39 : decode cX6_play 39 = .ok (.aload_n 0, 1) := by decide +kernel
theorem dX6_play_40 : decode cX6_play 40 = .ok (.getfield 10, 3) := by decide +kernel
theorem dX6_play_43 : decode cX6_play 43 = .ok (.invokevirtual 33, 3) := by decide +kernel
theorem dX6_play_46 : decode cX6_play 46 = .ok (.aload_n 0, 1) := by decide +kernel
theorem dX6_play_47 : decode cX6_play 47 = .ok (.getfield 10, 3) := by decide +kernel
theorem dX6_play_50 : decode cX6_play 50 = .ok (.aload_n 0, 1) := by decide +kernel
theorem dX6_play_51 : decode cX6_play 51 = .ok (.getfield 16, 3) := by decide +kernel
theorem dX6_play_54 : decode cX6_play 54 = .ok (.invokevirtual 176, 3) := by decide +kernel
theorem dX6_play_57 : decode cX6_play 57 = .ok (.aload_n 0, 1) := by decide +kernel
theorem dX6_play_58 : decode cX6_play 58 = .ok (.getfield 22, 3) := by decide +kernel
theorem dX6_play_61 : decode cX6_play 61 = .ok (.aload_n 0, 1) := by decide +kernel
theorem dX6_play_62 : decode cX6_play 62 = .ok (.getfield 29, 3) := by decide +kernel
theorem dX6_play_65 : decode cX6_play 65 = .ok (.getfield 264, 3) := by decide +kernel
theorem dX6_play_68 : decode cX6_play 68 = .ok (.invokevirtual 41, 3) := by decide +kernel
theorem dX6_play_71 : decode cX6_play 71 = .ok (.ireturn, 1) := by decide +kernel
theorem dX6_isOutside_0 : decode cX6_isOutside 0 = .ok (.iload_n 0, 1) := by decide +kernel
theorem dX6_isOutside_1 : decode cX6_isOutside 1 = .ok (.iload_n 1, 1) := by decide +kernel
theorem dX6_isOutside_2 : decode cX6_isOutside 2 = .ok (.if_icmp .lt 8, 3) := by decide +kernel
theorem dX6_isOutside_5 : decode cX6_isOutside 5 = .ok (.iload_n 0, 1) := by decide +kernel
theorem dX6_isOutside_6 : decode cX6_isOutside 6 = .ok (.iload_n 2, 1) := by decide +kernel
theorem dX6_isOutside_7 : decode cX6_isOutside 7 = .ok (.if_icmp .le 7, 3) := by decide +kernel
theorem dX6_isOutside_10 : decode cX6_isOutside 10 = .ok (.iconst 1, 1) := by decide +kernel
theorem dX6_isOutside_11 : decode cX6_isOutside 11 = .ok (.goto 4, 3) := by decide +kernel
theorem dX6_isOutside_14 : decode cX6_isOutside 14 = .ok (.iconst 0, 1) := by decide +kernel
theorem dX6_isOutside_15 : decode cX6_isOutside 15 = .ok (.ireturn, 1) := by decide +kernel
theorem dX6_foundOrNot_0 : decode cX6_foundOrNot 0 = .ok (.iload_n 0, 1) := by decide +kernel
theorem dX6_foundOrNot_1 : decode cX6_foundOrNot 1 = .ok (.iconst (-1), 1) := by decide +kernel
theorem dX6_foundOrNot_2 : decode cX6_foundOrNot 2 = .ok (.if_icmp .ne 8, 3) := by decide +kernel
theorem dX6_foundOrNot_5 : decode cX6_foundOrNot 5 = .ok (.ldc 193, 2) := by decide +kernel
theorem dX6_foundOrNot_7 : decode cX6_foundOrNot 7 = .ok (.goto 4, 3) := by decide +kernel
theorem dX6_foundOrNot_10 : decode cX6_foundOrNot 10 = .ok (.iload_n 0, 1) := by decide +kernel
theorem dX6_foundOrNot_11 : decode cX6_foundOrNot 11 = .ok (.ireturn, 1) := by decide +kernel
theorem dX6_bitsOf_0 : decode cX6_bitsOf 0 = .ok (.fload_n 0, 1) := by decide +kernel
theorem dX6_bitsOf_1 : decode cX6_bitsOf 1 = .ok (.fconst 0, 1) := by decide +kernel
theorem dX6_bitsOf_2 : decode cX6_bitsOf 2 = .ok (.fcmp .g, 1) := by decide +kernel
theorem dX6_bitsOf_3 : decode cX6_bitsOf 3 = .ok (.ifCond .gt 5, 3) := by decide +kernel
theorem dX6_bitsOf_6 : decode cX6_bitsOf 6 = .ok (.iconst 0, 1) := by decide +kernel
theorem dX6_bitsOf_7 : decode cX6_bitsOf 7 = .ok (.ireturn, 1) := by decide +kernel
theorem dX6_bitsOf_8 : decode cX6_bitsOf 8 = .ok (.fload_n 0, 1) := by decide +kernel
theorem dX6_bitsOf_9 : decode cX6_bitsOf 9 = .ok (.fstore_n 1, 1) := by decide +kernel
theorem dX6_bitsOf_10 : decode cX6_bitsOf 10 = .ok (.bipush 127, 2) := by decide +kernel
theorem dX6_bitsOf_12 : decode cX6_bitsOf 12 = .ok (.istore_n 2, 1) := by decide +kernel
theorem dX6_bitsOf_13 : decode cX6_bitsOf 13 = .ok (.iconst 0, 1) := by decide +kernel
theorem dX6_bitsOf_14 : decode cX6_bitsOf 14 = .ok (.istore_n 3, 1) := by decide +kernel
theorem dX6_bitsOf_15 : decode cX6_bitsOf 15 = .ok (.iload_n 3, 1) := by decide +kernel
theorem dX6_bitsOf_16 : decode cX6_bitsOf 16 = .ok (.bipush 127, 2) := by decide +kernel
theorem dX6_bitsOf_18 : decode cX6_bitsOf 18 = .ok (.if_icmp .ge 22, 3) := by decide +kernel
theorem dX6_bitsOf_21 : decode cX6_bitsOf 21 = .ok (.fload_n 1, 1) := by decide +kernel
theorem dX6_bitsOf_22 : decode cX6_bitsOf 22 = .ok (.fconst 2, 1) := by decide +kernel
theorem dX6_bitsOf_23 : decode cX6_bitsOf 23 = .ok (.fcmp .l, 1) := by decide +kernel
theorem dX6_bitsOf_24 : decode cX6_bitsOf 24 = .ok (.ifCond .lt 16, 3) := by decide +kernel
theorem dX6_bitsOf_27 : decode cX6_bitsOf 27 = .ok (.fload_n 1, 1) := by decide +kernel
theorem dX6_bitsOf_28 : decode cX6_bitsOf 28 = .ok (.fconst 2, 1) := by decide +kernel
theorem dX6_bitsOf_29 : decode cX6_bitsOf 29 = .ok (.fdiv, 1) := by decide +kernel
theorem dX6_bitsOf_30 : decode cX6_bitsOf 30 = .ok (.fstore_n 1, 1) := by decide +kernel
theorem dX6_bitsOf_31 : decode cX6_bitsOf 31 = .ok (.iinc 2 1, 3) := by decide +kernel
theorem dX6_bitsOf_34 : decode cX6_bitsOf 34 = .ok (.iinc 3 1, 3) := by decide +kernel
theorem dX6_bitsOf_37 : decode cX6_bitsOf 37 = .ok (.goto (-22), 3) := by decide +kernel
theorem dX6_bitsOf_40 : decode cX6_bitsOf 40 = .ok (.iconst 0, 1) := by decide +kernel
theorem dX6_bitsOf_41 : decode cX6_bitsOf 41 = .ok (.istore_n 3, 1) := by decide +kernel
theorem dX6_bitsOf_42 : decode cX6_bitsOf 42 = .ok (.iload_n 3, 1) := by decide +kernel
theorem dX6_bitsOf_43 : decode cX6_bitsOf 43 = .ok (.bipush 126, 2) := by decide +kernel
theorem dX6_bitsOf_45 : decode cX6_bitsOf 45 = .ok (.if_icmp .ge 22, 3) := by decide +kernel
theorem dX6_bitsOf_48 : decode cX6_bitsOf 48 = .ok (.fload_n 1, 1) := by decide +kernel
theorem dX6_bitsOf_49 : decode cX6_bitsOf 49 = .ok (.fconst 1, 1) := by decide +kernel
theorem dX6_bitsOf_50 : decode cX6_bitsOf 50 = .ok (.fcmp .g, 1) := by decide +kernel
theorem dX6_bitsOf_51 : decode cX6_bitsOf 51 = .ok (.ifCond .ge 16, 3) := by decide +kernel
theorem dX6_bitsOf_54 : decode cX6_bitsOf 54 = .ok (.fload_n 1, 1) := by decide +kernel
theorem dX6_bitsOf_55 : decode cX6_bitsOf 55 = .ok (.fconst 2, 1) := by decide +kernel
theorem dX6_bitsOf_56 : decode cX6_bitsOf 56 = .ok (.fmul, 1) := by decide +kernel
theorem dX6_bitsOf_57 : decode cX6_bitsOf 57 = .ok (.fstore_n 1, 1) := by decide +kernel
theorem dX6_bitsOf_58 : decode cX6_bitsOf 58 = .ok (.iinc 2 (-1), 3) := by decide +kernel
theorem dX6_bitsOf_61 : decode cX6_bitsOf 61 = .ok (.iinc 3 1, 3) := by decide +kernel
theorem dX6_bitsOf_64 : decode cX6_bitsOf 64 = .ok (.goto (-22), 3) := by decide +kernel
theorem dX6_bitsOf_67 : decode cX6_bitsOf 67 = .ok (.iload_n 2, 1) := by decide +kernel
theorem dX6_bitsOf_68 : decode cX6_bitsOf 68 = .ok (.bipush 23, 2) := by decide +kernel
theorem dX6_bitsOf_70 : decode cX6_bitsOf 70 = .ok (.ishl, 1) := by decide +kernel
theorem dX6_bitsOf_71 : decode cX6_bitsOf 71 = .ok (.fload_n 1, 1) := by decide +kernel
theorem dX6_bitsOf_72 : decode cX6_bitsOf 72 = .ok (.fconst 1, 1) := by decide +kernel
theorem dX6_bitsOf_73 : decode cX6_bitsOf 73 = .ok (.fsub, 1) := by decide +kernel
theorem dX6_bitsOf_74 : decode cX6_bitsOf 74 = .ok (.ldc_w 267, 3) := by decide +kernel
theorem dX6_bitsOf_77 : decode cX6_bitsOf 77 = .ok (.fmul, 1) := by decide +kernel
theorem dX6_bitsOf_78 : decode cX6_bitsOf 78 = .ok (.f2i, 1) := by decide +kernel
theorem dX6_bitsOf_79 : decode cX6_bitsOf 79 = .ok (.ior, 1) := by decide +kernel
theorem dX6_bitsOf_80 : decode cX6_bitsOf 80 = .ok (.ireturn, 1) := by decide +kernel
theorem dJ6_bitCount_0f7a4_0 : decode cJ6_bitCount_0f7a4 0 = .ok (.iload_n 0, 1) := by decide +kernel
theorem dJ6_bitCount_0f7a4_1 : decode cJ6_bitCount_0f7a4 1 = .ok (.iload_n 0, 1) := by decide +kernel
theorem dJ6_bitCount_0f7a4_2 : decode cJ6_bitCount_0f7a4 2 = .ok (.iconst 1, 1) := by decide +kernel
theorem dJ6_bitCount_0f7a4_3 : decode cJ6_bitCount_0f7a4 3 = .ok (.iushr, 1) := by decide +kernel
theorem dJ6_bitCount_0f7a4_4 : decode cJ6_bitCount_0f7a4 4 = .ok (.ldc_w 265, 3) := by decide +kernel
theorem dJ6_bitCount_0f7a4_7 : decode cJ6_bitCount_0f7a4 7 = .ok (.iand, 1) := by decide +kernel
theorem dJ6_bitCount_0f7a4_8 : decode cJ6_bitCount_0f7a4 8 = .ok (.isub, 1) := by decide +kernel
theorem dJ6_bitCount_0f7a4_9 : decode cJ6_bitCount_0f7a4 9 = .ok (.istore_n 0, 1) := by decide +kernel
theorem dJ6_bitCount_0f7a4_10 : decode cJ6_bitCount_0f7a4 10 = .ok (.iload_n 0, 1) := by decide +kernel
theorem dJ6_bitCount_0f7a4_11 : decode cJ6_bitCount_0f7a4 11 = .ok (.ldc_w 266, 3) := by decide +kernel
theorem dJ6_bitCount_0f7a4_14 : decode cJ6_bitCount_0f7a4 14 = .ok (.iand, 1) := by decide +kernel
theorem dJ6_bitCount_0f7a4_15 : decode cJ6_bitCount_0f7a4 15 = .ok (.iload_n 0, 1) := by decide +kernel
theorem dJ6_bitCount_0f7a4_16 : decode cJ6_bitCount_0f7a4 16 = .ok (.iconst 2, 1) := by decide +kernel
theorem dJ6_bitCount_0f7a4_17 : decode cJ6_bitCount_0f7a4 17 = .ok (.iushr, 1) := by decide +kernel
theorem dJ6_bitCount_0f7a4_18 : decode cJ6_bitCount_0f7a4 18 = .ok (.ldc_w 266, 3) := by decide +kernel
theorem dJ6_bitCount_0f7a4_21 : decode cJ6_bitCount_0f7a4 21 = .ok (.iand, 1) := by decide +kernel
theorem dJ6_bitCount_0f7a4_22 : decode cJ6_bitCount_0f7a4 22 = .ok (.iadd, 1) := by decide +kernel
theorem dJ6_bitCount_0f7a4_23 : decode cJ6_bitCount_0f7a4 23 = .ok (.istore_n 0, 1) := by decide +kernel
theorem dJ6_bitCount_0f7a4_24 : decode cJ6_bitCount_0f7a4 24 = .ok (.iload_n 0, 1) := by decide +kernel
theorem dJ6_bitCount_0f7a4_25 : decode cJ6_bitCount_0f7a4 25 = .ok (.iload_n 0, 1) := by decide +kernel
theorem dJ6_bitCount_0f7a4_26 : decode cJ6_bitCount_0f7a4 26 = .ok (.iconst 4, 1) := by decide +kernel
theorem dJ6_bitCount_0f7a4_27 : decode cJ6_bitCount_0f7a4 27 = .ok (.iushr, 1) := by decide +kernel
theorem dJ6_bitCount_0f7a4_28 : decode cJ6_bitCount_0f7a4 28 = .ok (.iadd, 1) := by decide +kernel
theorem dJ6_bitCount_0f7a4_29 : decode cJ6_bitCount_0f7a4 29 = .ok (.ldc_w 267, 3) := by decide +kernel
theorem dJ6_bitCount_0f7a4_32 : decode cJ6_bitCount_0f7a4 32 = .ok (.iand, 1) := by decide +kernel
theorem dJ6_bitCount_0f7a4_33 : decode cJ6_bitCount_0f7a4 33 = .ok (.istore_n 0, 1) := by decide +kernel
theorem dJ6_bitCount_0f7a4_34 : decode cJ6_bitCount_0f7a4 34 = .ok (.iload_n 0, 1) := by decide +kernel
theorem dJ6_bitCount_0f7a4_35 : decode cJ6_bitCount_0f7a4 35 = .ok (.iload_n 0, 1) := by decide +kernel
theorem dJ6_bitCount_0f7a4_36 : decode cJ6_bitCount_0f7a4 36 = .ok (.bipush 8, 2) := by decide +kernel
theorem dJ6_bitCount_0f7a4_38 : decode cJ6_bitCount_0f7a4 38 = .ok (.iushr, 1) := by decide +kernel
theorem dJ6_bitCount_0f7a4_39 : decode cJ6_bitCount_0f7a4 39 = .ok (.iadd, 1) := by decide +kernel
theorem dJ6_bitCount_0f7a4_40 : decode cJ6_bitCount_0f7a4 40 = .ok (.istore_n 0, 1) := by decide +kernel
theorem dJ6_bitCount_0f7a4_41 : decode cJ6_bitCount_0f7a4 41 = .ok (.iload_n 0, 1) := by decide +kernel
theorem dJ6_bitCount_0f7a4_42 : decode cJ6_bitCount_0f7a4 42 = .ok (.iload_n 0, 1) := by decide +kernel
theorem dJ6_bitCount_0f7a4_43 : decode cJ6_bitCount_0f7a4 43 = .ok (.bipush 16, 2) := by decide +kernel
theorem dJ6_bitCount_0f7a4_45 : decode cJ6_bitCount_0f7a4 45 = .ok (.iushr, 1) := by decide +kernel
theorem dJ6_bitCount_0f7a4_46 : decode cJ6_bitCount_0f7a4 46 = .ok (.iadd, 1) := by decide +kernel
theorem dJ6_bitCount_0f7a4_47 : decode cJ6_bitCount_0f7a4 47 = .ok (.istore_n 0, 1) := by decide +kernel
theorem dJ6_bitCount_0f7a4_48 : decode cJ6_bitCount_0f7a4 48 = .ok (.iload_n 0, 1) := by decide +kernel
theorem dJ6_bitCount_0f7a4_49 : decode cJ6_bitCount_0f7a4 49 = .ok (.bipush 63, 2) := by decide +kernel
theorem dJ6_bitCount_0f7a4_51 : decode cJ6_bitCount_0f7a4 51 = .ok (.iand, 1) := by decide +kernel
theorem dJ6_bitCount_0f7a4_52 : decode cJ6_bitCount_0f7a4 52 = .ok (.ireturn, 1) := by decide +kernel
theorem dJ9_max_7cf53_0 : decode cJ9_max_7cf53 0 = .ok (.iload_n 0, 1) := by decide +kernel
theorem dJ9_max_7cf53_1 : decode cJ9_max_7cf53 1 = .ok (.iload_n 1, 1) := by decide +kernel
theorem dJ9_max_7cf53_2 : decode cJ9_max_7cf53 2 = .ok (.if_icmp .lt 7, 3) := by decide +kernel
theorem dJ9_max_7cf53_5 : decode cJ9_max_7cf53 5 = .ok (.iload_n 0, 1) := by decide +kernel
theorem dJ9_max_7cf53_6 : decode cJ9_max_7cf53 6 = .ok (.goto 4, 3) := by decide +kernel
theorem dJ9_max_7cf53_9 : decode cJ9_max_7cf53 9 = .ok (.iload_n 1, 1) := by decide +kernel
theorem dJ9_max_7cf53_10 : decode cJ9_max_7cf53 10 = .ok (.ireturn, 1) := by decide +kernel
theorem dJ9_min_7cf53_0 : decode cJ9_min_7cf53 0 = .ok (.iload_n 0, 1) := by decide +kernel
theorem dJ9_min_7cf53_1 : decode cJ9_min_7cf53 1 = .ok (.iload_n 1, 1) := by decide +kernel
theorem dJ9_min_7cf53_2 : decode cJ9_min_7cf53 2 = .ok (.if_icmp .gt 7, 3) := by decide +kernel
theorem dJ9_min_7cf53_5 : decode cJ9_min_7cf53 5 = .ok (.iload_n 0, 1) := by decide +kernel
theorem dJ9_min_7cf53_6 : decode cJ9_min_7cf53 6 = .ok (.goto 4, 3) := by decide +kernel
theorem dJ9_min_7cf53_9 : decode cJ9_min_7cf53 9 = .ok (.iload_n 1, 1) := by decide +kernel
theorem dJ9_min_7cf53_10 : decode cJ9_min_7cf53 10 = .ok (.ireturn, 1) := by decide +kernel
theorem dJ0_length_8abf5_0 : decode cJ0_length_8abf5 0 = .ok (.aload_n 0, 1) := by decide +kernel
theorem dJ0_length_8abf5_1 : decode cJ0_length_8abf5 1 = .ok (.getfield 9, 3) := by decide +kernel
theorem dJ0_length_8abf5_4 : decode cJ0_length_8abf5 4 = .ok (.arraylength, 1) := by decide +kernel
theorem dJ0_length_8abf5_5 : decode cJ0_length_8abf5 5 = .ok (.aload_n 0, 1) := by decide +kernel
theorem dJ0_length_8abf5_6 : decode cJ0_length_8abf5 6 = .ok (.invokevirtual 335, 3) := by decide +kernel
theorem dJ0_length_8abf5_9 : decode cJ0_length_8abf5 9 = .ok (.ishr, 1) := by decide +kernel
theorem dJ0_length_8abf5_10 : decode cJ0_length_8abf5 10 = .ok (.ireturn, 1) := by decide +kernel
theorem dJ0_charAt_5068e_0 : decode cJ0_charAt_5068e 0 = .ok (.aload_n 0, 1) := by decide +kernel
theorem dJ0_charAt_5068e_1 : decode cJ0_charAt_5068e 1 = .ok (.invokevirtual 492, 3) := by decide +kernel
theorem dJ0_charAt_5068e_4 : decode cJ0_charAt_5068e 4 = .ok (.ifCond .eq 12, 3) := by decide +kernel
theorem dJ0_charAt_5068e_7 : decode cJ0_charAt_5068e 7 = .ok (.aload_n 0, 1) := by decide +kernel
theorem dJ0_charAt_5068e_8 : decode cJ0_charAt_5068e 8 = .ok (.getfield 9, 3) := by decide +kernel
theorem dJ0_charAt_5068e_11 : decode cJ0_charAt_5068e 11 = .ok (.iload_n 1, 1) := by decide +kernel
theorem dJ0_charAt_5068e_12 : decode cJ0_charAt_5068e 12 = .ok (.invokestatic 495, 3) := by decide +kernel
theorem dJ0_charAt_5068e_15 : decode cJ0_charAt_5068e 15 = .ok (.ireturn, 1) := by decide +kernel
theorem dJ0_charAt_5068e_16 : decode cJ0_charAt_5068e 16 = .ok (.aload_n 0, 1) := by decide +kernel
theorem dJ0_charAt_5068e_17 : decode cJ0_charAt_5068e 17 = .ok (.getfield 9, 3) := by decide +kernel
theorem dJ0_charAt_5068e_20 : decode cJ0_charAt_5068e 20 = .ok (.iload_n 1, 1) := by decide +kernel
theorem dJ0_charAt_5068e_21 : decode cJ0_charAt_5068e 21 = .ok (.invokestatic 498, 3) := by decide +kernel
theorem dJ0_charAt_5068e_24 : decode cJ0_charAt_5068e 24 = .ok (.ireturn, 1) := by decide +kernel
theorem dJ0_coder_7d493_0 : decode cJ0_coder_7d493 0 = .ok (.getstatic 38, 3) := by decide +kernel
theorem dJ0_coder_7d493_3 : decode cJ0_coder_7d493 3 = .ok (.ifCond .eq 10, 3) := by decide +kernel
theorem dJ0_coder_7d493_6 : decode cJ0_coder_7d493 6 = .ok (.aload_n 0, 1) := by decide +kernel
theorem dJ0_coder_7d493_7 : decode cJ0_coder_7d493 7 = .ok (.getfield 15, 3) := by decide +kernel
theorem dJ0_coder_7d493_10 : decode cJ0_coder_7d493 10 = .ok (.goto 4, 3) := by decide +kernel
theorem dJ0_coder_7d493_13 : decode cJ0_coder_7d493 13 = .ok (.iconst 1, 1) := by decide +kernel
theorem dJ0_coder_7d493_14 : decode cJ0_coder_7d493 14 = .ok (.ireturn, 1) := by decide +kernel
theorem dJ0_isLatin1_aae02_0 : decode cJ0_isLatin1_aae02 0 = .ok (.getstatic 38, 3) := by decide +kernel
theorem dJ0_isLatin1_aae02_3 : decode cJ0_isLatin1_aae02 3 = .ok (.ifCond .eq 14, 3) := by decide +kernel
theorem dJ0_isLatin1_aae02_6 : decode cJ0_isLatin1_aae02 6 = .ok (.aload_n 0, 1) := by decide +kernel
theorem dJ0_isLatin1_aae02_7 : decode cJ0_isLatin1_aae02 7 = .ok (.getfield 15, 3) := by decide +kernel
theorem dJ0_isLatin1_aae02_10 : decode cJ0_isLatin1_aae02 10 = .ok (.ifCond .ne 7, 3) := by decide +kernel
theorem dJ0_isLatin1_aae02_13 : decode cJ0_isLatin1_aae02 13 = .ok (.iconst 1, 1) := by decide +kernel
theorem dJ0_isLatin1_aae02_14 : decode cJ0_isLatin1_aae02 14 = .ok (.goto 4, 3) := by decide +kernel
theorem dJ0_isLatin1_aae02_17 : decode cJ0_isLatin1_aae02 17 = .ok (.iconst 0, 1) := by decide +kernel
theorem dJ0_isLatin1_aae02_18 : decode cJ0_isLatin1_aae02 18 = .ok (.ireturn, 1) := by decide +kernel
theorem dJ0_checkIndex_df160_0 : decode cJ0_checkIndex_df160 0 = .ok (.iload_n 0, 1) := by decide +kernel
theorem dJ0_checkIndex_df160_1 : decode cJ0_checkIndex_df160 1 = .ok (.iload_n 1, 1) := by decide +kernel
theorem dJ0_checkIndex_df160_2 : decode cJ0_checkIndex_df160 2 = .ok (.getstatic 1053, 3) := by decide +kernel
theorem dJ0_checkIndex_df160_5 : decode cJ0_checkIndex_df160 5 = .ok (.invokestatic 1059, 3) := by decide +kernel
theorem dJ0_checkIndex_df160_8 : decode cJ0_checkIndex_df160 8 = .ok (.pop, 1) := by decide +kernel
theorem dJ0_checkIndex_df160_9 : decode cJ0_checkIndex_df160 9 = .ok (.return_, 1) := by decide +kernel
theorem dJ1_charAt_3b067_0 : decode cJ1_charAt_3b067 0 = .ok (.iload_n 1, 1) := by decide +kernel
theorem dJ1_charAt_3b067_1 : decode cJ1_charAt_3b067 1 = .ok (.aload_n 0, 1) := by decide +kernel
theorem dJ1_charAt_3b067_2 : decode cJ1_charAt_3b067 2 = .ok (.arraylength, 1) := by decide +kernel
theorem dJ1_charAt_3b067_3 : decode cJ1_charAt_3b067 3 = .ok (.invokestatic 9, 3) := by decide +kernel
theorem dJ1_charAt_3b067_6 : decode cJ1_charAt_3b067 6 = .ok (.aload_n 0, 1) := by decide +kernel
theorem dJ1_charAt_3b067_7 : decode cJ1_charAt_3b067 7 = .ok (.iload_n 1, 1) := by decide +kernel
theorem dJ1_charAt_3b067_8 : decode cJ1_charAt_3b067 8 = .ok (.baload, 1) := by decide +kernel
theorem dJ1_charAt_3b067_9 : decode cJ1_charAt_3b067 9 = .ok (.sipush 255, 3) := by decide +kernel
theorem dJ1_charAt_3b067_12 : decode cJ1_charAt_3b067 12 = .ok (.iand, 1) := by decide +kernel
theorem dJ1_charAt_3b067_13 : decode cJ1_charAt_3b067 13 = .ok (.i2c, 1) := by decide +kernel
theorem dJ1_charAt_3b067_14 : decode cJ1_charAt_3b067 14 = .ok (.ireturn, 1) := by decide +kernel
theorem dJ2_getChar_3b067_0 : decode cJ2_getChar_3b067 0 = .ok (.getstatic 44, 3) := by decide +kernel
theorem dJ2_getChar_3b067_3 : decode cJ2_getChar_3b067 3 = .ok (.ifCond .ne 25, 3) := by decide +kernel
theorem dJ2_getChar_3b067_6 : decode cJ2_getChar_3b067 6 = .ok (.iload_n 1, 1) := by decide +kernel
theorem dJ2_getChar_3b067_7 : decode cJ2_getChar_3b067 7 = .ok (.ifCond .lt 11, 3) := by decide +kernel
theorem dJ2_getChar_3b067_10 : decode cJ2_getChar_3b067 10 = .ok (.iload_n 1, 1) := by decide +kernel
theorem dJ2_getChar_3b067_11 : decode cJ2_getChar_3b067 11 = .ok (.aload_n 0, 1) := by decide +kernel
theorem dJ2_getChar_3b067_12 : decode cJ2_getChar_3b067 12 = .ok (.invokestatic 48, 3) := by decide +kernel
theorem dJ2_getChar_3b067_15 : decode cJ2_getChar_3b067 15 = .ok (.if_icmp .lt 13, 3) := by decide +kernel
theorem dJ2_getChar_3b067_18 : decode cJ2_getChar_3b067 18 = .ok (.new 52, 3) := by decide +kernel
theorem dJ2_getChar_3b067_21 : decode cJ2_getChar_3b067 21 = .ok (.dup, 1) := by decide +kernel
theorem dJ2_getChar_3b067_22 : decode cJ2_getChar_3b067 22 = .ok (.ldc 54, 2) := by decide +kernel
theorem dJ2_getChar_3b067_24 : decode cJ2_getChar_3b067 24 = .ok (.invokespecial 56, 3) := by decide +kernel
theorem dJ2_getChar_3b067_27 : decode cJ2_getChar_3b067 27 = .ok (.athrow, 1) := by decide +kernel
theorem dJ2_getChar_3b067_28 : decode cJ2_getChar_3b067 28 = .ok (.iload_n 1, 1) := by decide +kernel
theorem dJ2_getChar_3b067_29 : decode cJ2_getChar_3b067 29 = .ok (.iconst 1, 1) := by decide +kernel
theorem dJ2_getChar_3b067_30 : decode cJ2_getChar_3b067 30 = .ok (.ishl, 1) := by decide +kernel
theorem dJ2_getChar_3b067_31 : decode cJ2_getChar_3b067 31 = .ok (.istore_n 1, 1) := by decide +kernel
theorem dJ2_getChar_3b067_32 : decode cJ2_getChar_3b067 32 = .ok (.aload_n 0, 1) := by decide +kernel
theorem dJ2_getChar_3b067_33 : decode cJ2_getChar_3b067 33 = .ok (.iload_n 1, 1) := by decide +kernel
theorem dJ2_getChar_3b067_34 : decode cJ2_getChar_3b067 34 = .ok (.iinc 1 1, 3) := by decide +kernel
theorem dJ2_getChar_3b067_37 : decode cJ2_getChar_3b067 37 = .ok (.baload, 1) := by decide +kernel
theorem dJ2_getChar_3b067_38 : decode cJ2_getChar_3b067 38 = .ok (.sipush 255, 3) := by decide +kernel
theorem dJ2_getChar_3b067_41 : decode cJ2_getChar_3b067 41 = .ok (.iand, 1) := by decide +kernel
theorem dJ2_getChar_3b067_42 : decode cJ2_getChar_3b067 42 = .ok (.getstatic 59, 3) := by decide +kernel
theorem dJ2_getChar_3b067_45 : decode cJ2_getChar_3b067 45 = .ok (.ishl, 1) := by decide +kernel
theorem dJ2_getChar_3b067_46 : decode cJ2_getChar_3b067 46 = .ok (.aload_n 0, 1) := by decide +kernel
theorem dJ2_getChar_3b067_47 : decode cJ2_getChar_3b067 47 = .ok (.iload_n 1, 1) := by decide +kernel
theorem dJ2_getChar_3b067_48 : decode cJ2_getChar_3b067 48 = .ok (.baload, 1) := by decide +kernel
theorem dJ2_getChar_3b067_49 : decode cJ2_getChar_3b067 49 = .ok (.sipush 255, 3) := by decide +kernel
theorem dJ2_getChar_3b067_52 : decode cJ2_getChar_3b067 52 = .ok (.iand, 1) := by decide +kernel
theorem dJ2_getChar_3b067_53 : decode cJ2_getChar_3b067 53 = .ok (.getstatic 63, 3) := by decide +kernel
theorem dJ2_getChar_3b067_56 : decode cJ2_getChar_3b067 56 = .ok (.ishl, 1) := by decide +kernel
theorem dJ2_getChar_3b067_57 : decode cJ2_getChar_3b067 57 = .ok (.ior, 1) := by decide +kernel
theorem dJ2_getChar_3b067_58 : decode cJ2_getChar_3b067 58 = .ok (.i2c, 1) := by decide +kernel
theorem dJ2_getChar_3b067_59 : decode cJ2_getChar_3b067 59 = .ok (.ireturn, 1) := by decide +kernel
theorem dJ2_length_9d52b_0 : decode cJ2_length_9d52b 0 = .ok (.aload_n 0, 1) := by decide +kernel
theorem dJ2_length_9d52b_1 : decode cJ2_length_9d52b 1 = .ok (.arraylength, 1) := by decide +kernel
theorem dJ2_length_9d52b_2 : decode cJ2_length_9d52b 2 = .ok (.iconst 1, 1) := by decide +kernel
theorem dJ2_length_9d52b_3 : decode cJ2_length_9d52b 3 = .ok (.ishr, 1) := by decide +kernel
theorem dJ2_length_9d52b_4 : decode cJ2_length_9d52b 4 = .ok (.ireturn, 1) := by decide +kernel
theorem dJ2_charAt_3b067_0 : decode cJ2_charAt_3b067 0 = .ok (.iload_n 1, 1) := by decide +kernel
theorem dJ2_charAt_3b067_1 : decode cJ2_charAt_3b067 1 = .ok (.aload_n 0, 1) := by decide +kernel
theorem dJ2_charAt_3b067_2 : decode cJ2_charAt_3b067 2 = .ok (.invokestatic 67, 3) := by decide +kernel
theorem dJ2_charAt_3b067_5 : decode cJ2_charAt_3b067 5 = .ok (.aload_n 0, 1) := by decide +kernel
theorem dJ2_charAt_3b067_6 : decode cJ2_charAt_3b067 6 = .ok (.iload_n 1, 1) := by decide +kernel
theorem dJ2_charAt_3b067_7 : decode cJ2_charAt_3b067 7 = .ok (.invokestatic 71, 3) := by decide +kernel
theorem dJ2_charAt_3b067_10 : decode cJ2_charAt_3b067 10 = .ok (.ireturn, 1) := by decide +kernel
theorem dJ2_checkIndex_2214a_0 : decode cJ2_checkIndex_2214a 0 = .ok (.iload_n 0, 1) := by decide +kernel
theorem dJ2_checkIndex_2214a_1 : decode cJ2_checkIndex_2214a 1 = .ok (.aload_n 1, 1) := by decide +kernel
theorem dJ2_checkIndex_2214a_2 : decode cJ2_checkIndex_2214a 2 = .ok (.invokestatic 48, 3) := by decide +kernel
theorem dJ2_checkIndex_2214a_5 : decode cJ2_checkIndex_2214a 5 = .ok (.invokestatic 414, 3) := by decide +kernel
theorem dJ2_checkIndex_2214a_8 : decode cJ2_checkIndex_2214a 8 = .ok (.return_, 1) := by decide +kernel
theorem dJ3_checkIndex_8e157_0 : decode cJ3_checkIndex_8e157 0 = .ok (.iload_n 0, 1) := by decide +kernel
theorem dJ3_checkIndex_8e157_1 : decode cJ3_checkIndex_8e157 1 = .ok (.ifCond .lt 8, 3) := by decide +kernel
theorem dJ3_checkIndex_8e157_4 : decode cJ3_checkIndex_8e157 4 = .ok (.iload_n 0, 1) := by decide +kernel
theorem dJ3_checkIndex_8e157_5 : decode cJ3_checkIndex_8e157 5 = .ok (.iload_n 1, 1) := by decide +kernel
theorem dJ3_checkIndex_8e157_6 : decode cJ3_checkIndex_8e157 6 = .ok (.if_icmp .lt 10, 3) := by decide +kernel
theorem dJ3_checkIndex_8e157_9 : decode cJ3_checkIndex_8e157 9 = .ok (.aload_n 2, 1) := by decide +kernel
theorem dJ3_checkIndex_8e157_10 : decode cJ3_checkIndex_8e157 10 = .ok (.iload_n 0, 1) := by decide +kernel
theorem dJ3_checkIndex_8e157_11 : decode cJ3_checkIndex_8e157 11 = .ok (.iload_n 1, 1) := by decide +kernel
theorem dJ3_checkIndex_8e157_12 : decode cJ3_checkIndex_8e157 12 = .ok (.invokestatic 95, 3) := by decide +kernel
theorem dJ3_checkIndex_8e157_15 : decode cJ3_checkIndex_8e157 15 = .ok (.athrow, 1) := by decide +kernel
theorem dJ3_checkIndex_8e157_16 : decode cJ3_checkIndex_8e157 16 = .ok (.iload_n 0, 1) := by decide +kernel
theorem dJ3_checkIndex_8e157_17 : decode cJ3_checkIndex_8e157 17 = .ok (.ireturn, 1) := by decide +kernel
end
section
theorem dX7_init_0 : decode cX7_init 0 = .ok (.aload_n 0, 1) := by decide +kernel
theorem dX7_init_1 : decode cX7_init 1 = .ok (.invokespecial 1, 3) := by decide +kernel
theorem dX7_init_4 : decode cX7_init 4 = .ok (.aload_n 0, 1) := by decide +kernel
theorem dX7_init_5 : decode cX7_init 5 = .ok (.sipush 554, 3) := by decide +kernel
theorem dX7_init_8 : decode cX7_init 8 = .ok (.newarray .int, 2) := by decide +kernel
theorem dX7_init_10 : decode cX7_init 10 = .ok (.putfield 7, 3) := by decide +kernel
theorem dX7_init_13 : decode cX7_init 13 = .ok (.aload_n 0, 1) := by decide +kernel
theorem dX7_init_14 : decode cX7_init 14 = .ok (.sipush 554, 3) := by decide +kernel
theorem dX7_init_17 : decode cX7_init 17 = .ok (.newarray .int, 2) := by decide +kernel
theorem dX7_init_19 : decode cX7_init 19 = .ok (.putfield 13, 3) := by decide +kernel
theorem dX7_init_22 : decode cX7_init 22 = .ok (.aload_n 0, 1) := by decide +kernel
theorem dX7_init_23 : decode cX7_init 23 = .ok (.sipush 2216, 3) := by decide +kernel
theorem dX7_init_26 : decode cX7_init 26 = .ok (.newarray .int, 2) := by decide +kernel
theorem dX7_init_28 : decode cX7_init 28 = .ok (.putfield 16, 3) := by decide +kernel
theorem dX7_init_31 : decode cX7_init 31 = .ok (.aload_n 0, 1) := by decide +kernel
theorem dX7_init_32 : decode cX7_init 32 = .ok (.bipush 60, 2) := by decide +kernel
theorem dX7_init_34 : decode cX7_init 34 = .ok (.newarray .int, 2) := by decide +kernel
theorem dX7_init_36 : decode cX7_init 36 = .ok (.putfield 19, 3) := by decide +kernel
theorem dX7_init_39 : decode cX7_init 39 = .ok (.aload_n 0, 1) := by decide +kernel
theorem dX7_init_40 : decode cX7_init 40 = .ok (.iconst 4, 1) := by decide +kernel
theorem dX7_init_41 : decode cX7_init 41 = .ok (.newarray .int, 2) := by decide +kernel
theorem dX7_init_43 : decode cX7_init 43 = .ok (.putfield 22, 3) := by decide +kernel
theorem dX7_init_46 : decode cX7_init 46 = .ok (.return_, 1) := by decide +kernel
theorem dX7_in_0 : decode cX7_in 0 = .ok (.iload_n 0, 1) := by decide +kernel
theorem dX7_in_1 : decode cX7_in 1 = .ok (.iload_n 1, 1) := by decide +kernel
theorem dX7_in_2 : decode cX7_in 2 = .ok (.if_icmp .lt 12, 3) := by decide +kernel
theorem dX7_in_5 : decode cX7_in 5 = .ok (.iload_n 0, 1) := by decide +kernel
theorem dX7_in_6 : decode cX7_in 6 = .ok (.iload_n 2, 1) := by decide +kernel
theorem dX7_in_7 : decode cX7_in 7 = .ok (.if_icmp .gt 7, 3) := by decide +kernel
theorem dX7_in_10 : decode cX7_in 10 = .ok (.iconst 1, 1) := by decide +kernel
theorem dX7_in_11 : decode cX7_in 11 = .ok (.goto 4, 3) := by decide +kernel
theorem dX7_in_14 : decode cX7_in 14 = .ok (.iconst 0, 1) := by decide +kernel
theorem dX7_in_15 : decode cX7_in 15 = .ok (.ireturn, 1) := by decide +kernel
theorem dX7_putAside_0 : decode cX7_putAside 0 = .ok (.iconst 0, 1) := by decide +kernel
theorem dX7_putAside_1 : decode cX7_putAside 1 = .ok (.istore_n 1, 1) := by decide +kernel
theorem dX7_putAside_2 : decode cX7_putAside 2 = .ok (.iload_n 1, 1) := by decide +kernel
theorem dX7_putAside_3 : decode cX7_putAside 3 = .ok (.sipush 554, 3) := by decide +kernel
theorem dX7_putAside_6 : decode cX7_putAside 6 = .ok (.if_icmp .ge 21, 3) := by decide +kernel
theorem dX7_putAside_9 : decode cX7_putAside 9 = .ok (.aload_n 0, 1) := by decide +kernel
theorem dX7_putAside_10 : decode cX7_putAside 10 = .ok (.getfield 13, 3) := by decide +kernel
theorem dX7_putAside_13 : decode cX7_putAside 13 = .ok (.iload_n 1, 1) := by decide +kernel
theorem dX7_putAside_14 : decode cX7_putAside 14 = .ok (.aload_n 0, 1) := by decide +kernel
theorem dX7_putAside_15 : decode cX7_putAside 15 = .ok (.getfield 7, 3) := by decide +kernel
theorem dX7_putAside_18 : decode cX7_putAside 18 = .ok (.iload_n 1, 1) := by decide +kernel
theorem dX7_putAside_19 : decode cX7_putAside 19 = .ok (.iaload, 1) := by decide +kernel
theorem dX7_putAside_20 : decode cX7_putAside 20 = .ok (.iastore, 1) := by decide +kernel
theorem dX7_putAside_21 : decode cX7_putAside 21 = .ok (.iinc 1 1, 3) := by decide +kernel
theorem dX7_putAside_24 : decode cX7_putAside 24 = .ok (.goto (-22), 3) := by decide +kernel
theorem dX7_putAside_27 : decode cX7_putAside 27 = .ok (.return_, 1) := by decide +kernel
theorem dX7_putBack_0 : decode cX7_putBack 0 = .ok (.iconst 0, 1) := by decide +kernel
theorem dX7_putBack_1 : decode cX7_putBack 1 = .ok (.istore_n 1, 1) := by decide +kernel
theorem dX7_putBack_2 : decode cX7_putBack 2 = .ok (.iload_n 1, 1) := by decide +kernel
theorem dX7_putBack_3 : decode cX7_putBack 3 = .ok (.sipush 554, 3) := by decide +kernel
theorem dX7_putBack_6 : decode cX7_putBack 6 = .ok (.if_icmp .ge 21, 3) := by decide +kernel
theorem dX7_putBack_9 : decode cX7_putBack 9 = .ok (.aload_n 0, 1) := by decide +kernel
theorem dX7_putBack_10 : decode cX7_putBack 10 = .ok (.getfield 7, 3) := by decide +kernel
theorem dX7_putBack_13 : decode cX7_putBack 13 = .ok (.iload_n 1, 1) := by decide +kernel
theorem dX7_putBack_14 : decode cX7_putBack 14 = .ok (.aload_n 0, 1) := by decide +kernel
theorem dX7_putBack_15 : decode cX7_putBack 15 = .ok (.getfield 13, 3) := by decide +kernel
theorem dX7_putBack_18 : decode cX7_putBack 18 = .ok (.iload_n 1, 1) := by decide +kernel
theorem dX7_putBack_19 : decode cX7_putBack 19 = .ok (.iaload, 1) := by decide +kernel
theorem dX7_putBack_20 : decode cX7_putBack 20 = .ok (.iastore, 1) := by decide +kernel
theorem dX7_putBack_21 : decode cX7_putBack 21 = .ok (.iinc 1 1, 3) := by decide +kernel
theorem dX7_putBack_24 : decode cX7_putBack 24 = .ok (.goto (-22), 3) := by decide +kernel
theorem dX7_putBack_27 : decode cX7_putBack 27 = .ok (.return_, 1) := by decide +kernel
theorem dX7_change_0 : decode cX7_change 0 = .ok (.iload_n 1, 1) := by decide +kernel
theorem dX7_change_1 : decode cX7_change 1 = .ok (.ifCond .ge 9, 3) := by decide +kernel
theorem dX7_change_4 : decode cX7_change 4 = .ok (.aload_n 0, 1) := by decide +kernel
theorem dX7_change_5 : decode cX7_change 5 = .ok (.invokevirtual 25, 3) := by decide +kernel
theorem dX7_change_8 : decode cX7_change 8 = .ok (.iload_n 1, 1) := by decide +kernel
theorem dX7_change_9 : decode cX7_change 9 = .ok (.ireturn, 1) := by decide +kernel
theorem dX7_change_10 : decode cX7_change 10 = .ok (.aload_n 0, 1) := by decide +kernel
theorem dX7_change_11 : decode cX7_change 11 = .ok (.getfield 28, 3) := by decide +kernel
theorem dX7_change_14 : decode cX7_change 14 = .ok (.iconst 4, 1) := by decide +kernel
theorem dX7_change_15 : decode cX7_change 15 = .ok (.if_icmp .ne 44, 3) := by decide +kernel
theorem dX7_change_18 : decode cX7_change 18 = .ok (.iconst 0, 1) := by decide +kernel
theorem dX7_change_19 : decode cX7_change 19 = .ok (.istore_n 2, 1) := by decide +kernel
theorem dX7_change_20 : decode cX7_change 20 = .ok (.iload_n 2, 1) := by decide +kernel
theorem dX7_change_21 : decode cX7_change 21 = .ok (.sipush 1662, 3) := by decide +kernel
theorem dX7_change_24 : decode cX7_change 24 = .ok (.if_icmp .ge 25, 3) := by decide +kernel
theorem dX7_change_27 : decode cX7_change 27 = .ok (.aload_n 0, 1) := by decide +kernel
theorem dX7_change_28 : decode cX7_change 28 = .ok (.getfield 16, 3) := by decide +kernel
theorem dX7_change_31 : decode cX7_change 31 = .ok (.iload_n 2, 1) := by decide +kernel
theorem dX7_change_32 : decode cX7_change 32 = .ok (.aload_n 0, 1) := by decide +kernel
theorem dX7_change_33 : decode cX7_change 33 = .ok (.getfield 16, 3) := by decide +kernel
theorem dX7_change_36 : decode cX7_change 36 = .ok (.sipush 554, 3) := by decide +kernel
theorem dX7_change_39 : decode cX7_change 39 = .ok (.iload_n 2, 1) := by decide +kernel
theorem dX7_change_40 : decode cX7_change 40 = .ok (.iadd, 1) := by decide +kernel
theorem dX7_change_41 : decode cX7_change 41 = .ok (.iaload, 1) := by decide +kernel
theorem dX7_change_42 : decode cX7_change 42 = .ok (.iastore, 1) := by decide +kernel
theorem dX7_change_43 : decode cX7_change 43 = .ok (.iinc 2 1, 3) := by decide +kernel
theorem dX7_change_46 : decode cX7_change 46 = .ok (.goto (-26), 3) := by decide +kernel
theorem dX7_change_49 : decode cX7_change 49 = .ok (.aload_n 0, 1) := by decide +kernel
theorem dX7_change_50 : decode cX7_change 50 = .ok (.dup, 1) := by decide +kernel
theorem dX7_change_51 : decode cX7_change 51 = .ok (.getfield 28, 3) := by decide +kernel
theorem dX7_change_54 : decode cX7_change 54 = .ok (.iconst 1, 1) := by decide +kernel
theorem dX7_change_55 : decode cX7_change 55 = .ok (.isub, 1) := by decide +kernel
theorem dX7_change_56 : decode cX7_change 56 = .ok (.putfield 28, 3) := by decide +kernel
theorem dX7_change_59 : decode cX7_change 59 = .ok (.iconst 0, 1) := by decide +kernel
theorem dX7_change_60 : decode cX7_change 60 = .ok (.istore_n 2, 1) := by decide +kernel
theorem dX7_change_61 : decode cX7_change 61 = .ok (.iload_n 2, 1) := by decide +kernel
theorem dX7_change_62 : decode cX7_change 62 = .ok (.sipush 554, 3) := by decide +kernel
theorem dX7_change_65 : decode cX7_change 65 = .ok (.if_icmp .ge 30, 3) := by decide +kernel
theorem dX7_change_68 : decode cX7_change 68 = .ok (.aload_n 0, 1) := by decide +kernel
theorem dX7_change_69 : decode cX7_change 69 = .ok (.getfield 16, 3) := by decide +kernel
theorem dX7_change_72 : decode cX7_change 72 = .ok (.sipush 554, 3) := by decide +kernel
theorem dX7_change_75 : decode cX7_change 75 = .ok (.aload_n 0, 1) := by decide +kernel
theorem dX7_change_76 : decode cX7_change 76 = .ok (.getfield 28, 3) := by decide +kernel
theorem dX7_change_79 : decode cX7_change 79 = .ok (.imul, 1) := by decide +kernel
theorem dX7_change_80 : decode cX7_change 80 = .ok (.iload_n 2, 1) := by decide +kernel
theorem dX7_change_81 : decode cX7_change 81 = .ok (.iadd, 1) := by decide +kernel
theorem dX7_change_82 : decode cX7_change 82 = .ok (.aload_n 0, 1) := by decide +kernel
theorem dX7_change_83 : decode cX7_change 83 = .ok (.getfield 13, 3) := by decide +kernel
theorem dX7_change_86 : decode cX7_change 86 = .ok (.iload_n 2, 1) := by decide +kernel
theorem dX7_change_87 : decode cX7_change 87 = .ok (.iaload, 1) := by decide +kernel
theorem dX7_change_88 : decode cX7_change 88 = .ok (.iastore, 1) := by decide +kernel
theorem dX7_change_89 : decode cX7_change 89 = .ok (.iinc 2 1, 3) := by decide +kernel
theorem dX7_change_92 : decode cX7_change 92 = .ok (.goto (-31), 3) := by decide +kernel
theorem dX7_change_95 : decode cX7_change 95 = .ok (.aload_n 0, 1) := by decide +kernel
theorem dX7_change_96 : decode cX7_change 96 = .ok (.dup, 1) := by decide +kernel
theorem dX7_change_97 : decode cX7_change 97 = .ok (.getfield 28, 3) := by decide +kernel
theorem dX7_change_100 : decode cX7_change 100 = .ok (.iconst 1, 1) := by decide +kernel
theorem dX7_change_101 : decode cX7_change 101 = .ok (.iadd, 1) := by decide +kernel
theorem dX7_change_102 : decode cX7_change 102 = .ok (.putfield 28, 3) := by decide +kernel
theorem dX7_change_105 : decode cX7_change 105 = .ok (.iload_n 1, 1) := by decide +kernel
theorem dX7_change_106 : decode cX7_change 106 = .ok (.ireturn, 1) := by decide +kernel
theorem dX7_at_0 : decode cX7_at 0 = .ok (.iconst 1, 1) := by decide +kernel
theorem dX7_at_1 : decode cX7_at 1 = .ok (.bipush 41, 2) := by decide +kernel
theorem dX7_at_3 : decode cX7_at 3 = .ok (.iload_n 0, 1) := by decide +kernel
theorem dX7_at_4 : decode cX7_at 4 = .ok (.imul, 1) := by decide +kernel
theorem dX7_at_5 : decode cX7_at 5 = .ok (.iadd, 1) := by decide +kernel
theorem dX7_at_6 : decode cX7_at 6 = .ok (.iload_n 1, 1) := by decide +kernel
theorem dX7_at_7 : decode cX7_at 7 = .ok (.iadd, 1) := by decide +kernel
theorem dX7_at_8 : decode cX7_at 8 = .ok (.ireturn, 1) := by decide +kernel
theorem dX7_of_0 : decode cX7_of 0 = .ok (.sipush 336, 3) := by decide +kernel
theorem dX7_of_3 : decode cX7_of 3 = .ok (.bipush 7, 2) := by decide +kernel
theorem dX7_of_5 : decode cX7_of 5 = .ok (.iload_n 0, 1) := by decide +kernel
theorem dX7_of_6 : decode cX7_of 6 = .ok (.imul, 1) := by decide +kernel
theorem dX7_of_7 : decode cX7_of 7 = .ok (.iadd, 1) := by decide +kernel
theorem dX7_of_8 : decode cX7_of 8 = .ok (.iload_n 1, 1) := by decide +kernel
theorem dX7_of_9 : decode cX7_of 9 = .ok (.iadd, 1) := by decide +kernel
theorem dX7_of_10 : decode cX7_of 10 = .ok (.ireturn, 1) := by decide +kernel
theorem dX7_isCourse_0 : decode cX7_isCourse 0 = .ok (.iload_n 1, 1) := by decide +kernel
theorem dX7_isCourse_1 : decode cX7_isCourse 1 = .ok (.iconst 0, 1) := by decide +kernel
theorem dX7_isCourse_2 : decode cX7_isCourse 2 = .ok (.aload_n 0, 1) := by decide +kernel
theorem dX7_isCourse_3 : decode cX7_isCourse 3 = .ok (.getfield 7, 3) := by decide +kernel
theorem dX7_isCourse_6 : decode cX7_isCourse 6 = .ok (.iconst 0, 1) := by decide +kernel
theorem dX7_isCourse_7 : decode cX7_isCourse 7 = .ok (.iaload, 1) := by decide +kernel
theorem dX7_isCourse_8 : decode cX7_isCourse 8 = .ok (.iconst 1, 1) := by decide +kernel
theorem dX7_isCourse_9 : decode cX7_isCourse 9 = .ok (.isub, 1) := by decide +kernel
theorem dX7_isCourse_10 : decode cX7_isCourse 10 = .ok (.invokestatic 32, 3) := by decide +kernel
theorem dX7_isCourse_13 : decode cX7_isCourse 13 = .ok (.ireturn, 1) := by decide +kernel
theorem dX7_isPerson_0 : decode cX7_isPerson 0 = .ok (.iload_n 1, 1) := by decide +kernel
theorem dX7_isPerson_1 : decode cX7_isPerson 1 = .ok (.iconst 0, 1) := by decide +kernel
theorem dX7_isPerson_2 : decode cX7_isPerson 2 = .ok (.aload_n 0, 1) := by decide +kernel
theorem dX7_isPerson_3 : decode cX7_isPerson 3 = .ok (.getfield 7, 3) := by decide +kernel
theorem dX7_isPerson_6 : decode cX7_isPerson 6 = .ok (.sipush 335, 3) := by decide +kernel
theorem dX7_isPerson_9 : decode cX7_isPerson 9 = .ok (.iaload, 1) := by decide +kernel
theorem dX7_isPerson_10 : decode cX7_isPerson 10 = .ok (.iconst 1, 1) := by decide +kernel
theorem dX7_isPerson_11 : decode cX7_isPerson 11 = .ok (.isub, 1) := by decide +kernel
theorem dX7_isPerson_12 : decode cX7_isPerson 12 = .ok (.invokestatic 32, 3) := by decide +kernel
theorem dX7_isPerson_15 : decode cX7_isPerson 15 = .ok (.ireturn, 1) := by decide +kernel
theorem dX7_isRoom_0 : decode cX7_isRoom 0 = .ok (.iload_n 1, 1) := by decide +kernel
theorem dX7_isRoom_1 : decode cX7_isRoom 1 = .ok (.iconst 0, 1) := by decide +kernel
theorem dX7_isRoom_2 : decode cX7_isRoom 2 = .ok (.aload_n 0, 1) := by decide +kernel
theorem dX7_isRoom_3 : decode cX7_isRoom 3 = .ok (.getfield 7, 3) := by decide +kernel
theorem dX7_isRoom_6 : decode cX7_isRoom 6 = .ok (.sipush 329, 3) := by decide +kernel
theorem dX7_isRoom_9 : decode cX7_isRoom 9 = .ok (.iaload, 1) := by decide +kernel
theorem dX7_isRoom_10 : decode cX7_isRoom 10 = .ok (.iconst 1, 1) := by decide +kernel
theorem dX7_isRoom_11 : decode cX7_isRoom 11 = .ok (.isub, 1) := by decide +kernel
theorem dX7_isRoom_12 : decode cX7_isRoom 12 = .ok (.invokestatic 32, 3) := by decide +kernel
theorem dX7_isRoom_15 : decode cX7_isRoom 15 = .ok (.ireturn, 1) := by decide +kernel
theorem dX7_isHere_0 : decode cX7_isHere 0 = .ok (.aload_n 0, 1) := by decide +kernel
theorem dX7_isHere_1 : decode cX7_isHere 1 = .ok (.getfield 7, 3) := by decide +kernel
theorem dX7_isHere_4 : decode cX7_isHere 4 = .ok (.iload_n 1, 1) := by decide +kernel
theorem dX7_isHere_5 : decode cX7_isHere 5 = .ok (.iconst 0, 1) := by decide +kernel
theorem dX7_isHere_6 : decode cX7_isHere 6 = .ok (.invokestatic 36, 3) := by decide +kernel
theorem dX7_isHere_9 : decode cX7_isHere 9 = .ok (.iaload, 1) := by decide +kernel
theorem dX7_isHere_10 : decode cX7_isHere 10 = .ok (.iconst 1, 1) := by decide +kernel
theorem dX7_isHere_11 : decode cX7_isHere 11 = .ok (.if_icmp .ne 7, 3) := by decide +kernel
theorem dX7_isHere_14 : decode cX7_isHere 14 = .ok (.iconst 1, 1) := by decide +kernel
theorem dX7_isHere_15 : decode cX7_isHere 15 = .ok (.goto 4, 3) := by decide +kernel
theorem dX7_isHere_18 : decode cX7_isHere 18 = .ok (.iconst 0, 1) := by decide +kernel
theorem dX7_isHere_19 : decode cX7_isHere 19 = .ok (.ireturn, 1) := by decide +kernel
theorem dX7_isOpen_0 : decode cX7_isOpen 0 = .ok (.aload_n 0, 1) := by decide +kernel
theorem dX7_isOpen_1 : decode cX7_isOpen 1 = .ok (.getfield 7, 3) := by decide +kernel
theorem dX7_isOpen_4 : decode cX7_isOpen 4 = .ok (.iload_n 1, 1) := by decide +kernel
theorem dX7_isOpen_5 : decode cX7_isOpen 5 = .ok (.bipush 6, 2) := by decide +kernel
theorem dX7_isOpen_7 : decode cX7_isOpen 7 = .ok (.invokestatic 40, 3) := by decide +kernel
theorem dX7_isOpen_10 : decode cX7_isOpen 10 = .ok (.iaload, 1) := by decide +kernel
theorem dX7_isOpen_11 : decode cX7_isOpen 11 = .ok (.ifCond .ne 7, 3) := by decide +kernel
theorem dX7_isOpen_14 : decode cX7_isOpen 14 = .ok (.iconst 1, 1) := by decide +kernel
theorem dX7_isOpen_15 : decode cX7_isOpen 15 = .ok (.goto 4, 3) := by decide +kernel
theorem dX7_isOpen_18 : decode cX7_isOpen 18 = .ok (.iconst 0, 1) := by decide +kernel
theorem dX7_isOpen_19 : decode cX7_isOpen 19 = .ok (.ireturn, 1) := by decide +kernel
theorem dX7_people_0 : decode cX7_people 0 = .ok (.aload_n 0, 1) := by decide +kernel
theorem dX7_people_1 : decode cX7_people 1 = .ok (.getfield 7, 3) := by decide +kernel
theorem dX7_people_4 : decode cX7_people 4 = .ok (.iload_n 1, 1) := by decide +kernel
theorem dX7_people_5 : decode cX7_people 5 = .ok (.bipush 10, 2) := by decide +kernel
theorem dX7_people_7 : decode cX7_people 7 = .ok (.invokestatic 40, 3) := by decide +kernel
theorem dX7_people_10 : decode cX7_people 10 = .ok (.iaload, 1) := by decide +kernel
theorem dX7_people_11 : decode cX7_people 11 = .ok (.ireturn, 1) := by decide +kernel
theorem dX7_hasFree_0 : decode cX7_hasFree 0 = .ok (.aload_n 0, 1) := by decide +kernel
theorem dX7_hasFree_1 : decode cX7_hasFree 1 = .ok (.iload_n 1, 1) := by decide +kernel
theorem dX7_hasFree_2 : decode cX7_hasFree 2 = .ok (.invokevirtual 43, 3) := by decide +kernel
theorem dX7_hasFree_5 : decode cX7_hasFree 5 = .ok (.ifCond .eq 25, 3) := by decide +kernel
theorem dX7_hasFree_8 : decode cX7_hasFree 8 = .ok (.aload_n 0, 1) := by decide +kernel
theorem dX7_hasFree_9 : decode cX7_hasFree 9 = .ok (.iload_n 1, 1) := by decide +kernel
theorem dX7_hasFree_10 : decode cX7_hasFree 10 = .ok (.invokevirtual 47, 3) := by decide +kernel
theorem dX7_hasFree_13 : decode cX7_hasFree 13 = .ok (.aload_n 0, 1) := by decide +kernel
theorem dX7_hasFree_14 : decode cX7_hasFree 14 = .ok (.getfield 7, 3) := by decide +kernel
theorem dX7_hasFree_17 : decode cX7_hasFree 17 = .ok (.iload_n 1, 1) := by decide +kernel
theorem dX7_hasFree_18 : decode cX7_hasFree 18 = .ok (.iconst 4, 1) := by decide +kernel
theorem dX7_hasFree_19 : decode cX7_hasFree 19 = .ok (.invokestatic 40, 3) := by decide +kernel
theorem dX7_hasFree_22 : decode cX7_hasFree 22 = .ok (.iaload, 1) := by decide +kernel
theorem dX7_hasFree_23 : decode cX7_hasFree 23 = .ok (.if_icmp .ge 7, 3) := by decide +kernel
theorem dX7_hasFree_26 : decode cX7_hasFree 26 = .ok (.iconst 1, 1) := by decide +kernel
theorem dX7_hasFree_27 : decode cX7_hasFree 27 = .ok (.goto 4, 3) := by decide +kernel
theorem dX7_hasFree_30 : decode cX7_hasFree 30 = .ok (.iconst 0, 1) := by decide +kernel
theorem dX7_hasFree_31 : decode cX7_hasFree 31 = .ok (.ireturn, 1) := by decide +kernel
theorem dX7_rankOf_0 : decode cX7_rankOf 0 = .ok (.iconst 0, 1) := by decide +kernel
theorem dX7_rankOf_1 : decode cX7_rankOf 1 = .ok (.istore_n 3, 1) := by decide +kernel
theorem dX7_rankOf_2 : decode cX7_rankOf 2 = .ok (.iload_n 3, 1) := by decide +kernel
theorem dX7_rankOf_3 : decode cX7_rankOf 3 = .ok (.iconst 3, 1) := by decide +kernel
theorem dX7_rankOf_4 : decode cX7_rankOf 4 = .ok (.if_icmp .ge 27, 3) := by decide +kernel
theorem dX7_rankOf_7 : decode cX7_rankOf 7 = .ok (.aload_n 0, 1) := by decide +kernel
theorem dX7_rankOf_8 : decode cX7_rankOf 8 = .ok (.getfield 7, 3) := by decide +kernel
theorem dX7_rankOf_11 : decode cX7_rankOf 11 = .ok (.iload_n 1, 1) := by decide +kernel
theorem dX7_rankOf_12 : decode cX7_rankOf 12 = .ok (.iconst 1, 1) := by decide +kernel
theorem dX7_rankOf_13 : decode cX7_rankOf 13 = .ok (.iload_n 3, 1) := by decide +kernel
theorem dX7_rankOf_14 : decode cX7_rankOf 14 = .ok (.iadd, 1) := by decide +kernel
theorem dX7_rankOf_15 : decode cX7_rankOf 15 = .ok (.invokestatic 36, 3) := by decide +kernel
theorem dX7_rankOf_18 : decode cX7_rankOf 18 = .ok (.iaload, 1) := by decide +kernel
theorem dX7_rankOf_19 : decode cX7_rankOf 19 = .ok (.iload_n 2, 1) := by decide +kernel
theorem dX7_rankOf_20 : decode cX7_rankOf 20 = .ok (.if_icmp .ne 5, 3) := by decide +kernel
theorem dX7_rankOf_23 : decode cX7_rankOf 23 = .ok (.iload_n 3, 1) := by decide +kernel
theorem dX7_rankOf_24 : decode cX7_rankOf 24 = .ok (.ireturn, 1) := by decide +kernel
theorem dX7_rankOf_25 : decode cX7_rankOf 25 = .ok (.iinc 3 1, 3) := by decide +kernel
theorem dX7_rankOf_28 : decode cX7_rankOf 28 = .ok (.goto (-26), 3) := by decide +kernel
theorem dX7_rankOf_31 : decode cX7_rankOf 31 = .ok (.iconst 3, 1) := by decide +kernel
theorem dX7_rankOf_32 : decode cX7_rankOf 32 = .ok (.ireturn, 1) := by decide +kernel
theorem dX7_rank_0 : decode cX7_rank 0 = .ok (.aload_n 0, 1) := by decide +kernel
theorem dX7_rank_1 : decode cX7_rank 1 = .ok (.getfield 7, 3) := by decide +kernel
theorem dX7_rank_4 : decode cX7_rank 4 = .ok (.iload_n 1, 1) := by decide +kernel
theorem dX7_rank_5 : decode cX7_rank 5 = .ok (.iconst 4, 1) := by decide +kernel
theorem dX7_rank_6 : decode cX7_rank 6 = .ok (.invokestatic 36, 3) := by decide +kernel
theorem dX7_rank_9 : decode cX7_rank 9 = .ok (.iaload, 1) := by decide +kernel
theorem dX7_rank_10 : decode cX7_rank 10 = .ok (.istore_n 2, 1) := by decide +kernel
theorem dX7_rank_11 : decode cX7_rank 11 = .ok (.iload_n 2, 1) := by decide +kernel
theorem dX7_rank_12 : decode cX7_rank 12 = .ok (.ifCond .ge 7, 3) := by decide +kernel
theorem dX7_rank_15 : decode cX7_rank 15 = .ok (.iconst 4, 1) := by decide +kernel
theorem dX7_rank_16 : decode cX7_rank 16 = .ok (.goto 9, 3) := by decide +kernel
theorem dX7_rank_19 : decode cX7_rank 19 = .ok (.aload_n 0, 1) := by decide +kernel
theorem dX7_rank_20 : decode cX7_rank 20 = .ok (.iload_n 1, 1) := by decide +kernel
theorem dX7_rank_21 : decode cX7_rank 21 = .ok (.iload_n 2, 1) := by decide +kernel
theorem dX7_rank_22 : decode cX7_rank 22 = .ok (.invokevirtual 51, 3) := by decide +kernel
theorem dX7_rank_25 : decode cX7_rank 25 = .ok (.ireturn, 1) := by decide +kernel
theorem dX7_goesOut_0 : decode cX7_goesOut 0 = .ok (.aload_n 0, 1) := by decide +kernel
theorem dX7_goesOut_1 : decode cX7_goesOut 1 = .ok (.getfield 7, 3) := by decide +kernel
theorem dX7_goesOut_4 : decode cX7_goesOut 4 = .ok (.iload_n 1, 1) := by decide +kernel
theorem dX7_goesOut_5 : decode cX7_goesOut 5 = .ok (.iconst 4, 1) := by decide +kernel
theorem dX7_goesOut_6 : decode cX7_goesOut 6 = .ok (.invokestatic 36, 3) := by decide +kernel
theorem dX7_goesOut_9 : decode cX7_goesOut 9 = .ok (.iaload, 1) := by decide +kernel
theorem dX7_goesOut_10 : decode cX7_goesOut 10 = .ok (.istore_n 2, 1) := by decide +kernel
theorem dX7_goesOut_11 : decode cX7_goesOut 11 = .ok (.iload_n 2, 1) := by decide +kernel
theorem dX7_goesOut_12 : decode cX7_goesOut 12 = .ok (.ifCond .ge 4, 3) := by decide +kernel
theorem dX7_goesOut_15 : decode cX7_goesOut 15 = .ok (.return_, 1) := by decide +kernel
theorem dX7_goesOut_16 : decode cX7_goesOut 16 = .ok (.iconst 0, 1) := by decide +kernel
theorem dX7_goesOut_17 : decode cX7_goesOut 17 = .ok (.istore_n 3, 1) := by decide +kernel
theorem dX7_goesOut_18 : decode cX7_goesOut 18 = .ok (.iconst 0, 1) := by decide +kernel
theorem dX7_goesOut_19 : decode cX7_goesOut 19 = .ok (.istore 4, 2) := by decide +kernel
theorem dX7_goesOut_21 : decode cX7_goesOut 21 = .ok (.iload 4, 2) := by decide +kernel
theorem dX7_goesOut_23 : decode cX7_goesOut 23 = .ok (.aload_n 0, 1) := by decide +kernel
theorem dX7_goesOut_24 : decode cX7_goesOut 24 = .ok (.iload_n 2, 1) := by decide +kernel
theorem dX7_goesOut_25 : decode cX7_goesOut 25 = .ok (.invokevirtual 47, 3) := by decide +kernel
theorem dX7_goesOut_28 : decode cX7_goesOut 28 = .ok (.if_icmp .ge 54, 3) := by decide +kernel
theorem dX7_goesOut_31 : decode cX7_goesOut 31 = .ok (.aload_n 0, 1) := by decide +kernel
theorem dX7_goesOut_32 : decode cX7_goesOut 32 = .ok (.getfield 7, 3) := by decide +kernel
theorem dX7_goesOut_35 : decode cX7_goesOut 35 = .ok (.iload_n 2, 1) := by decide +kernel
theorem dX7_goesOut_36 : decode cX7_goesOut 36 = .ok (.bipush 11, 2) := by decide +kernel
theorem dX7_goesOut_38 : decode cX7_goesOut 38 = .ok (.iload 4, 2) := by decide +kernel
theorem dX7_goesOut_40 : decode cX7_goesOut 40 = .ok (.iadd, 1) := by decide +kernel
theorem dX7_goesOut_41 : decode cX7_goesOut 41 = .ok (.invokestatic 40, 3) := by decide +kernel
theorem dX7_goesOut_44 : decode cX7_goesOut 44 = .ok (.iaload, 1) := by decide +kernel
theorem dX7_goesOut_45 : decode cX7_goesOut 45 = .ok (.istore 5, 2) := by decide +kernel
theorem dX7_goesOut_47 : decode cX7_goesOut 47 = .ok (.aload_n 0, 1) := by decide +kernel
theorem dX7_goesOut_48 : decode cX7_goesOut 48 = .ok (.getfield 7, 3) := by decide +kernel
theorem dX7_goesOut_51 : decode cX7_goesOut 51 = .ok (.iload_n 2, 1) := by decide +kernel
theorem dX7_goesOut_52 : decode cX7_goesOut 52 = .ok (.bipush 11, 2) := by decide +kernel
theorem dX7_goesOut_54 : decode cX7_goesOut 54 = .ok (.iload_n 3, 1) := by decide +kernel
theorem dX7_goesOut_55 : decode cX7_goesOut 55 = .ok (.iadd, 1) := by decide +kernel
theorem dX7_goesOut_56 : decode cX7_goesOut 56 = .ok (.invokestatic 40, 3) := by decide +kernel
theorem dX7_goesOut_59 : decode cX7_goesOut 59 = .ok (.iload 5, 2) := by decide +kernel
theorem dX7_goesOut_61 : decode cX7_goesOut 61 = .ok (.iastore, 1) := by decide +kernel
theorem dX7_goesOut_62 : decode cX7_goesOut 62 = .ok (.iload_n 3, 1) := by decide +kernel
theorem dX7_goesOut_63 : decode cX7_goesOut 63 = .ok (.iload 5, 2) := by decide +kernel
theorem dX7_goesOut_65 : decode cX7_goesOut 65 = .ok (.iload_n 1, 1) := by decide +kernel
theorem dX7_goesOut_66 : decode cX7_goesOut 66 = .ok (.if_icmp .ne 7, 3) := by decide +kernel
theorem dX7_goesOut_69 : decode cX7_goesOut 69 = .ok (.iconst 0, 1) := by decide +kernel
theorem dX7_goesOut_70 : decode cX7_goesOut 70 = .ok (.goto 4, 3) := by decide +kernel
theorem dX7_goesOut_73 : decode cX7_goesOut 73 = .ok (.iconst 1, 1) := by decide +kernel
theorem dX7_goesOut_74 : decode cX7_goesOut 74 = .ok (.iadd, 1) := by decide +kernel
theorem dX7_goesOut_75 : decode cX7_goesOut 75 = .ok (.istore_n 3, 1) := by decide +kernel
theorem dX7_goesOut_76 : decode cX7_goesOut 76 = .ok (.iinc 4 1, 3) := by decide +kernel
theorem dX7_goesOut_79 : decode cX7_goesOut 79 = .ok (.goto (-58), 3) := by decide +kernel
theorem dX7_goesOut_82 : decode cX7_goesOut 82 = .ok (.aload_n 0, 1) := by decide +kernel
theorem dX7_goesOut_83 : decode cX7_goesOut 83 = .ok (.getfield 7, 3) := by decide +kernel
theorem dX7_goesOut_86 : decode cX7_goesOut 86 = .ok (.iload_n 2, 1) := by decide +kernel
theorem dX7_goesOut_87 : decode cX7_goesOut 87 = .ok (.bipush 10, 2) := by decide +kernel
theorem dX7_goesOut_89 : decode cX7_goesOut 89 = .ok (.invokestatic 40, 3) := by decide +kernel
theorem dX7_goesOut_92 : decode cX7_goesOut 92 = .ok (.iload_n 3, 1) := by decide +kernel
theorem dX7_goesOut_93 : decode cX7_goesOut 93 = .ok (.iastore, 1) := by decide +kernel
theorem dX7_goesOut_94 : decode cX7_goesOut 94 = .ok (.aload_n 0, 1) := by decide +kernel
theorem dX7_goesOut_95 : decode cX7_goesOut 95 = .ok (.getfield 7, 3) := by decide +kernel
theorem dX7_goesOut_98 : decode cX7_goesOut 98 = .ok (.sipush 549, 3) := by decide +kernel
theorem dX7_goesOut_101 : decode cX7_goesOut 101 = .ok (.dup2, 1) := by decide +kernel
theorem dX7_goesOut_102 : decode cX7_goesOut 102 = .ok (.iaload, 1) := by decide +kernel
theorem dX7_goesOut_103 : decode cX7_goesOut 103 = .ok (.aload_n 0, 1) := by decide +kernel
theorem dX7_goesOut_104 : decode cX7_goesOut 104 = .ok (.getfield 7, 3) := by decide +kernel
theorem dX7_goesOut_107 : decode cX7_goesOut 107 = .ok (.iload_n 1, 1) := by decide +kernel
theorem dX7_goesOut_108 : decode cX7_goesOut 108 = .ok (.iconst 5, 1) := by decide +kernel
theorem dX7_goesOut_109 : decode cX7_goesOut 109 = .ok (.invokestatic 36, 3) := by decide +kernel
theorem dX7_goesOut_112 : decode cX7_goesOut 112 = .ok (.iaload, 1) := by decide +kernel
theorem dX7_goesOut_113 : decode cX7_goesOut 113 = .ok (.iadd, 1) := by decide +kernel
theorem dX7_goesOut_114 : decode cX7_goesOut 114 = .ok (.iastore, 1) := by decide +kernel
theorem dX7_goesOut_115 : decode cX7_goesOut 115 = .ok (.aload_n 0, 1) := by decide +kernel
theorem dX7_goesOut_116 : decode cX7_goesOut 116 = .ok (.getfield 7, 3) := by decide +kernel
theorem dX7_goesOut_119 : decode cX7_goesOut 119 = .ok (.iload_n 1, 1) := by decide +kernel
theorem dX7_goesOut_120 : decode cX7_goesOut 120 = .ok (.iconst 5, 1) := by decide +kernel
theorem dX7_goesOut_121 : decode cX7_goesOut 121 = .ok (.invokestatic 36, 3) := by decide +kernel
theorem dX7_goesOut_124 : decode cX7_goesOut 124 = .ok (.iconst 0, 1) := by decide +kernel
theorem dX7_goesOut_125 : decode cX7_goesOut 125 = .ok (.iastore, 1) := by decide +kernel
theorem dX7_goesOut_126 : decode cX7_goesOut 126 = .ok (.aload_n 0, 1) := by decide +kernel
theorem dX7_goesOut_127 : decode cX7_goesOut 127 = .ok (.getfield 7, 3) := by decide +kernel
theorem dX7_goesOut_130 : decode cX7_goesOut 130 = .ok (.iload_n 1, 1) := by decide +kernel
theorem dX7_goesOut_131 : decode cX7_goesOut 131 = .ok (.iconst 4, 1) := by decide +kernel
theorem dX7_goesOut_132 : decode cX7_goesOut 132 = .ok (.invokestatic 36, 3) := by decide +kernel
theorem dX7_goesOut_135 : decode cX7_goesOut 135 = .ok (.iconst (-1), 1) := by decide +kernel
theorem dX7_goesOut_136 : decode cX7_goesOut 136 = .ok (.iastore, 1) := by decide +kernel
theorem dX7_goesOut_137 : decode cX7_goesOut 137 = .ok (.return_, 1) := by decide +kernel
theorem dX7_joins_0 : decode cX7_joins 0 = .ok (.aload_n 0, 1) := by decide +kernel
theorem dX7_joins_1 : decode cX7_joins 1 = .ok (.getfield 7, 3) := by decide +kernel
theorem dX7_joins_4 : decode cX7_joins 4 = .ok (.iload_n 2, 1) := by decide +kernel
theorem dX7_joins_5 : decode cX7_joins 5 = .ok (.bipush 11, 2) := by decide +kernel
theorem dX7_joins_7 : decode cX7_joins 7 = .ok (.aload_n 0, 1) := by decide +kernel
theorem dX7_joins_8 : decode cX7_joins 8 = .ok (.iload_n 2, 1) := by decide +kernel
theorem dX7_joins_9 : decode cX7_joins 9 = .ok (.invokevirtual 47, 3) := by decide +kernel
theorem dX7_joins_12 : decode cX7_joins 12 = .ok (.iadd, 1) := by decide +kernel
theorem dX7_joins_13 : decode cX7_joins 13 = .ok (.invokestatic 40, 3) := by decide +kernel
theorem dX7_joins_16 : decode cX7_joins 16 = .ok (.iload_n 1, 1) := by decide +kernel
theorem dX7_joins_17 : decode cX7_joins 17 = .ok (.iastore, 1) := by decide +kernel
theorem dX7_joins_18 : decode cX7_joins 18 = .ok (.aload_n 0, 1) := by decide +kernel
theorem dX7_joins_19 : decode cX7_joins 19 = .ok (.getfield 7, 3) := by decide +kernel
theorem dX7_joins_22 : decode cX7_joins 22 = .ok (.iload_n 2, 1) := by decide +kernel
theorem dX7_joins_23 : decode cX7_joins 23 = .ok (.bipush 10, 2) := by decide +kernel
theorem dX7_joins_25 : decode cX7_joins 25 = .ok (.invokestatic 40, 3) := by decide +kernel
theorem dX7_joins_28 : decode cX7_joins 28 = .ok (.dup2, 1) := by decide +kernel
theorem dX7_joins_29 : decode cX7_joins 29 = .ok (.iaload, 1) := by decide +kernel
theorem dX7_joins_30 : decode cX7_joins 30 = .ok (.iconst 1, 1) := by decide +kernel
theorem dX7_joins_31 : decode cX7_joins 31 = .ok (.iadd, 1) := by decide +kernel
theorem dX7_joins_32 : decode cX7_joins 32 = .ok (.iastore, 1) := by decide +kernel
theorem dX7_joins_33 : decode cX7_joins 33 = .ok (.aload_n 0, 1) := by decide +kernel
theorem dX7_joins_34 : decode cX7_joins 34 = .ok (.getfield 7, 3) := by decide +kernel
theorem dX7_joins_37 : decode cX7_joins 37 = .ok (.iload_n 1, 1) := by decide +kernel
theorem dX7_joins_38 : decode cX7_joins 38 = .ok (.iconst 4, 1) := by decide +kernel
theorem dX7_joins_39 : decode cX7_joins 39 = .ok (.invokestatic 36, 3) := by decide +kernel
theorem dX7_joins_42 : decode cX7_joins 42 = .ok (.iload_n 2, 1) := by decide +kernel
theorem dX7_joins_43 : decode cX7_joins 43 = .ok (.iastore, 1) := by decide +kernel
theorem dX7_joins_44 : decode cX7_joins 44 = .ok (.aload_n 0, 1) := by decide +kernel
theorem dX7_joins_45 : decode cX7_joins 45 = .ok (.getfield 7, 3) := by decide +kernel
theorem dX7_joins_48 : decode cX7_joins 48 = .ok (.iload_n 1, 1) := by decide +kernel
theorem dX7_joins_49 : decode cX7_joins 49 = .ok (.bipush 6, 2) := by decide +kernel
theorem dX7_joins_51 : decode cX7_joins 51 = .ok (.invokestatic 36, 3) := by decide +kernel
theorem dX7_joins_54 : decode cX7_joins 54 = .ok (.dup2, 1) := by decide +kernel
theorem dX7_joins_55 : decode cX7_joins 55 = .ok (.iaload, 1) := by decide +kernel
theorem dX7_joins_56 : decode cX7_joins 56 = .ok (.iconst 1, 1) := by decide +kernel
theorem dX7_joins_57 : decode cX7_joins 57 = .ok (.iadd, 1) := by decide +kernel
theorem dX7_joins_58 : decode cX7_joins 58 = .ok (.iastore, 1) := by decide +kernel
theorem dX7_joins_59 : decode cX7_joins 59 = .ok (.return_, 1) := by decide +kernel
theorem dX7_better_0 : decode cX7_better 0 = .ok (.aload_n 0, 1) := by decide +kernel
theorem dX7_better_1 : decode cX7_better 1 = .ok (.iload_n 1, 1) := by decide +kernel
theorem dX7_better_2 : decode cX7_better 2 = .ok (.invokevirtual 54, 3) := by decide +kernel
theorem dX7_better_5 : decode cX7_better 5 = .ok (.ifCond .eq 11, 3) := by decide +kernel
theorem dX7_better_8 : decode cX7_better 8 = .ok (.aload_n 0, 1) := by decide +kernel
theorem dX7_better_9 : decode cX7_better 9 = .ok (.iload_n 1, 1) := by decide +kernel
theorem dX7_better_10 : decode cX7_better 10 = .ok (.invokevirtual 57, 3) := by decide +kernel
theorem dX7_better_13 : decode cX7_better 13 = .ok (.goto 4, 3) := by decide +kernel
theorem dX7_better_16 : decode cX7_better 16 = .ok (.iconst 0, 1) := by decide +kernel
theorem dX7_better_17 : decode cX7_better 17 = .ok (.istore_n 2, 1) := by decide +kernel
theorem dX7_better_18 : decode cX7_better 18 = .ok (.iconst 0, 1) := by decide +kernel
theorem dX7_better_19 : decode cX7_better 19 = .ok (.istore_n 3, 1) := by decide +kernel
theorem dX7_better_20 : decode cX7_better 20 = .ok (.iload_n 3, 1) := by decide +kernel
theorem dX7_better_21 : decode cX7_better 21 = .ok (.iload_n 2, 1) := by decide +kernel
theorem dX7_better_22 : decode cX7_better 22 = .ok (.if_icmp .ge 45, 3) := by decide +kernel
theorem dX7_better_25 : decode cX7_better 25 = .ok (.iload_n 3, 1) := by decide +kernel
theorem dX7_better_26 : decode cX7_better 26 = .ok (.iconst 3, 1) := by decide +kernel
theorem dX7_better_27 : decode cX7_better 27 = .ok (.if_icmp .ge 40, 3) := by decide +kernel
theorem dX7_better_30 : decode cX7_better 30 = .ok (.aload_n 0, 1) := by decide +kernel
theorem dX7_better_31 : decode cX7_better 31 = .ok (.getfield 7, 3) := by decide +kernel
theorem dX7_better_34 : decode cX7_better 34 = .ok (.iload_n 1, 1) := by decide +kernel
theorem dX7_better_35 : decode cX7_better 35 = .ok (.iconst 1, 1) := by decide +kernel
theorem dX7_better_36 : decode cX7_better 36 = .ok (.iload_n 3, 1) := by decide +kernel
theorem dX7_better_37 : decode cX7_better 37 = .ok (.iadd, 1) := by decide +kernel
theorem dX7_better_38 : decode cX7_better 38 = .ok (.invokestatic 36, 3) := by decide +kernel
theorem dX7_better_41 : decode cX7_better 41 = .ok (.iaload, 1) := by decide +kernel
theorem dX7_better_42 : decode cX7_better 42 = .ok (.istore 4, 2) := by decide +kernel
theorem dX7_better_44 : decode cX7_better 44 = .ok (.iload 4, 2) := by decide +kernel
theorem dX7_better_46 : decode cX7_better 46 = .ok (.ifCond .lt 15, 3) := by decide +kernel
theorem dX7_better_49 : decode cX7_better 49 = .ok (.aload_n 0, 1) := by decide +kernel
theorem dX7_better_50 : decode cX7_better 50 = .ok (.iload 4, 2) := by decide +kernel
theorem dX7_better_52 : decode cX7_better 52 = .ok (.invokevirtual 60, 3) := by decide +kernel
theorem dX7_better_55 : decode cX7_better 55 = .ok (.ifCond .eq 6, 3) := by decide +kernel
theorem dX7_better_58 : decode cX7_better 58 = .ok (.iload 4, 2) := by decide +kernel
theorem dX7_better_60 : decode cX7_better 60 = .ok (.ireturn, 1) := by decide +kernel
theorem dX7_better_61 : decode cX7_better 61 = .ok (.iinc 3 1, 3) := by decide +kernel
theorem dX7_better_64 : decode cX7_better 64 = .ok (.goto (-44), 3) := by decide +kernel
theorem dX7_better_67 : decode cX7_better 67 = .ok (.iconst (-1), 1) := by decide +kernel
theorem dX7_better_68 : decode cX7_better 68 = .ok (.ireturn, 1) := by decide +kernel
theorem dX7_settle_0 : decode cX7_settle 0 = .ok (.iconst 0, 1) := by decide +kernel
theorem dX7_settle_1 : decode cX7_settle 1 = .ok (.istore_n 1, 1) := by decide +kernel
theorem dX7_settle_2 : decode cX7_settle 2 = .ok (.iload_n 1, 1) := by decide +kernel
theorem dX7_settle_3 : decode cX7_settle 3 = .ok (.aload_n 0, 1) := by decide +kernel
theorem dX7_settle_4 : decode cX7_settle 4 = .ok (.getfield 7, 3) := by decide +kernel
theorem dX7_settle_7 : decode cX7_settle 7 = .ok (.sipush 335, 3) := by decide +kernel
theorem dX7_settle_10 : decode cX7_settle 10 = .ok (.iaload, 1) := by decide +kernel
theorem dX7_settle_11 : decode cX7_settle 11 = .ok (.if_icmp .ge 88, 3) := by decide +kernel
theorem dX7_settle_14 : decode cX7_settle 14 = .ok (.aload_n 0, 1) := by decide +kernel
theorem dX7_settle_15 : decode cX7_settle 15 = .ok (.iload_n 1, 1) := by decide +kernel
theorem dX7_settle_16 : decode cX7_settle 16 = .ok (.invokevirtual 63, 3) := by decide +kernel
theorem dX7_settle_19 : decode cX7_settle 19 = .ok (.istore_n 2, 1) := by decide +kernel
theorem dX7_settle_20 : decode cX7_settle 20 = .ok (.iload_n 2, 1) := by decide +kernel
theorem dX7_settle_21 : decode cX7_settle 21 = .ok (.ifCond .lt 72, 3) := by decide +kernel
theorem dX7_settle_24 : decode cX7_settle 24 = .ok (.aload_n 0, 1) := by decide +kernel
theorem dX7_settle_25 : decode cX7_settle 25 = .ok (.iload_n 1, 1) := by decide +kernel
theorem dX7_settle_26 : decode cX7_settle 26 = .ok (.invokevirtual 66, 3) := by decide +kernel
theorem dX7_settle_29 : decode cX7_settle 29 = .ok (.aload_n 0, 1) := by decide +kernel
theorem dX7_settle_30 : decode cX7_settle 30 = .ok (.iload_n 1, 1) := by decide +kernel
theorem dX7_settle_31 : decode cX7_settle 31 = .ok (.iload_n 2, 1) := by decide +kernel
theorem dX7_settle_32 : decode cX7_settle 32 = .ok (.invokevirtual 70, 3) := by decide +kernel
theorem dX7_settle_35 : decode cX7_settle 35 = .ok (.aload_n 0, 1) := by decide +kernel
theorem dX7_settle_36 : decode cX7_settle 36 = .ok (.getfield 7, 3) := by decide +kernel
theorem dX7_settle_39 : decode cX7_settle 39 = .ok (.iload_n 1, 1) := by decide +kernel
theorem dX7_settle_40 : decode cX7_settle 40 = .ok (.iconst 5, 1) := by decide +kernel
theorem dX7_settle_41 : decode cX7_settle 41 = .ok (.invokestatic 36, 3) := by decide +kernel
theorem dX7_settle_44 : decode cX7_settle 44 = .ok (.aload_n 0, 1) := by decide +kernel
theorem dX7_settle_45 : decode cX7_settle 45 = .ok (.getfield 7, 3) := by decide +kernel
theorem dX7_settle_48 : decode cX7_settle 48 = .ok (.iload_n 2, 1) := by decide +kernel
theorem dX7_settle_49 : decode cX7_settle 49 = .ok (.iconst 5, 1) := by decide +kernel
theorem dX7_settle_50 : decode cX7_settle 50 = .ok (.invokestatic 40, 3) := by decide +kernel
theorem dX7_settle_53 : decode cX7_settle 53 = .ok (.iaload, 1) := by decide +kernel
theorem dX7_settle_54 : decode cX7_settle 54 = .ok (.iastore, 1) := by decide +kernel
theorem dX7_settle_55 : decode cX7_settle 55 = .ok (.aload_n 0, 1) := by decide +kernel
theorem dX7_settle_56 : decode cX7_settle 56 = .ok (.getfield 7, 3) := by decide +kernel
theorem dX7_settle_59 : decode cX7_settle 59 = .ok (.sipush 548, 3) := by decide +kernel
theorem dX7_settle_62 : decode cX7_settle 62 = .ok (.dup2, 1) := by decide +kernel
theorem dX7_settle_63 : decode cX7_settle 63 = .ok (.iaload, 1) := by decide +kernel
theorem dX7_settle_64 : decode cX7_settle 64 = .ok (.aload_n 0, 1) := by decide +kernel
theorem dX7_settle_65 : decode cX7_settle 65 = .ok (.getfield 7, 3) := by decide +kernel
theorem dX7_settle_68 : decode cX7_settle 68 = .ok (.iload_n 2, 1) := by decide +kernel
theorem dX7_settle_69 : decode cX7_settle 69 = .ok (.iconst 5, 1) := by decide +kernel
theorem dX7_settle_70 : decode cX7_settle 70 = .ok (.invokestatic 40, 3) := by decide +kernel
theorem dX7_settle_73 : decode cX7_settle 73 = .ok (.iaload, 1) := by decide +kernel
theorem dX7_settle_74 : decode cX7_settle 74 = .ok (.iadd, 1) := by decide +kernel
theorem dX7_settle_75 : decode cX7_settle 75 = .ok (.iastore, 1) := by decide +kernel
theorem dX7_settle_76 : decode cX7_settle 76 = .ok (.aload_n 0, 1) := by decide +kernel
theorem dX7_settle_77 : decode cX7_settle 77 = .ok (.getfield 7, 3) := by decide +kernel
theorem dX7_settle_80 : decode cX7_settle 80 = .ok (.sipush 551, 3) := by decide +kernel
theorem dX7_settle_83 : decode cX7_settle 83 = .ok (.dup2, 1) := by decide +kernel
theorem dX7_settle_84 : decode cX7_settle 84 = .ok (.iaload, 1) := by decide +kernel
theorem dX7_settle_85 : decode cX7_settle 85 = .ok (.iconst 1, 1) := by decide +kernel
theorem dX7_settle_86 : decode cX7_settle 86 = .ok (.iadd, 1) := by decide +kernel
theorem dX7_settle_87 : decode cX7_settle 87 = .ok (.iastore, 1) := by decide +kernel
theorem dX7_settle_88 : decode cX7_settle 88 = .ok (.iconst 0, 1) := by decide +kernel
theorem dX7_settle_89 : decode cX7_settle 89 = .ok (.istore_n 1, 1) := by decide +kernel
theorem dX7_settle_90 : decode cX7_settle 90 = .ok (.goto 6, 3) := by decide +kernel
theorem dX7_settle_93 : decode cX7_settle 93 = .ok (.iinc 1 1, 3) := by decide +kernel
theorem dX7_settle_96 : decode cX7_settle 96 = .ok (.goto (-94), 3) := by decide +kernel
theorem dX7_settle_99 : decode cX7_settle 99 = .ok (.return_, 1) := by decide +kernel
theorem dX7_cancels_0 : decode cX7_cancels 0 = .ok (.aload_n 0, 1) := by decide +kernel
theorem dX7_cancels_1 : decode cX7_cancels 1 = .ok (.iload_n 1, 1) := by decide +kernel
theorem dX7_cancels_2 : decode cX7_cancels 2 = .ok (.invokevirtual 47, 3) := by decide +kernel
theorem dX7_cancels_5 : decode cX7_cancels 5 = .ok (.ifCond .le 21, 3) := by decide +kernel
theorem dX7_cancels_8 : decode cX7_cancels 8 = .ok (.aload_n 0, 1) := by decide +kernel
theorem dX7_cancels_9 : decode cX7_cancels 9 = .ok (.aload_n 0, 1) := by decide +kernel
theorem dX7_cancels_10 : decode cX7_cancels 10 = .ok (.getfield 7, 3) := by decide +kernel
theorem dX7_cancels_13 : decode cX7_cancels 13 = .ok (.iload_n 1, 1) := by decide +kernel
theorem dX7_cancels_14 : decode cX7_cancels 14 = .ok (.bipush 11, 2) := by decide +kernel
theorem dX7_cancels_16 : decode cX7_cancels 16 = .ok (.invokestatic 40, 3) := by decide +kernel
theorem dX7_cancels_19 : decode cX7_cancels 19 = .ok (.iaload, 1) := by decide +kernel
theorem dX7_cancels_20 : decode cX7_cancels 20 = .ok (.invokevirtual 66, 3) := by decide +kernel
theorem dX7_cancels_23 : decode cX7_cancels 23 = .ok (.goto (-23), 3) := by decide +kernel
theorem dX7_cancels_26 : decode cX7_cancels 26 = .ok (.aload_n 0, 1) := by decide +kernel
theorem dX7_cancels_27 : decode cX7_cancels 27 = .ok (.getfield 7, 3) := by decide +kernel
theorem dX7_cancels_30 : decode cX7_cancels 30 = .ok (.iload_n 1, 1) := by decide +kernel
theorem dX7_cancels_31 : decode cX7_cancels 31 = .ok (.bipush 6, 2) := by decide +kernel
theorem dX7_cancels_33 : decode cX7_cancels 33 = .ok (.invokestatic 40, 3) := by decide +kernel
theorem dX7_cancels_36 : decode cX7_cancels 36 = .ok (.iconst 2, 1) := by decide +kernel
theorem dX7_cancels_37 : decode cX7_cancels 37 = .ok (.iastore, 1) := by decide +kernel
theorem dX7_cancels_38 : decode cX7_cancels 38 = .ok (.aload_n 0, 1) := by decide +kernel
theorem dX7_cancels_39 : decode cX7_cancels 39 = .ok (.getfield 7, 3) := by decide +kernel
theorem dX7_cancels_42 : decode cX7_cancels 42 = .ok (.iload_n 1, 1) := by decide +kernel
theorem dX7_cancels_43 : decode cX7_cancels 43 = .ok (.bipush 9, 2) := by decide +kernel
theorem dX7_cancels_45 : decode cX7_cancels 45 = .ok (.invokestatic 40, 3) := by decide +kernel
theorem dX7_cancels_48 : decode cX7_cancels 48 = .ok (.iload_n 2, 1) := by decide +kernel
theorem dX7_cancels_49 : decode cX7_cancels 49 = .ok (.iastore, 1) := by decide +kernel
theorem dX7_cancels_50 : decode cX7_cancels 50 = .ok (.aload_n 0, 1) := by decide +kernel
theorem dX7_cancels_51 : decode cX7_cancels 51 = .ok (.getfield 7, 3) := by decide +kernel
theorem dX7_cancels_54 : decode cX7_cancels 54 = .ok (.sipush 553, 3) := by decide +kernel
theorem dX7_cancels_57 : decode cX7_cancels 57 = .ok (.dup2, 1) := by decide +kernel
theorem dX7_cancels_58 : decode cX7_cancels 58 = .ok (.iaload, 1) := by decide +kernel
theorem dX7_cancels_59 : decode cX7_cancels 59 = .ok (.iconst 1, 1) := by decide +kernel
theorem dX7_cancels_60 : decode cX7_cancels 60 = .ok (.iadd, 1) := by decide +kernel
theorem dX7_cancels_61 : decode cX7_cancels 61 = .ok (.iastore, 1) := by decide +kernel
theorem dX7_cancels_62 : decode cX7_cancels 62 = .ok (.return_, 1) := by decide +kernel
theorem dX7_levelsApart_0 : decode cX7_levelsApart 0 = .ok (.aload_n 0, 1) := by decide +kernel
theorem dX7_levelsApart_1 : decode cX7_levelsApart 1 = .ok (.getfield 7, 3) := by decide +kernel
theorem dX7_levelsApart_4 : decode cX7_levelsApart 4 = .ok (.iload_n 1, 1) := by decide +kernel
theorem dX7_levelsApart_5 : decode cX7_levelsApart 5 = .ok (.iconst 1, 1) := by decide +kernel
theorem dX7_levelsApart_6 : decode cX7_levelsApart 6 = .ok (.invokestatic 40, 3) := by decide +kernel
theorem dX7_levelsApart_9 : decode cX7_levelsApart 9 = .ok (.iaload, 1) := by decide +kernel
theorem dX7_levelsApart_10 : decode cX7_levelsApart 10 = .ok (.aload_n 0, 1) := by decide +kernel
theorem dX7_levelsApart_11 : decode cX7_levelsApart 11 = .ok (.getfield 7, 3) := by decide +kernel
theorem dX7_levelsApart_14 : decode cX7_levelsApart 14 = .ok (.iload_n 2, 1) := by decide +kernel
theorem dX7_levelsApart_15 : decode cX7_levelsApart 15 = .ok (.iconst 1, 1) := by decide +kernel
theorem dX7_levelsApart_16 : decode cX7_levelsApart 16 = .ok (.invokestatic 40, 3) := by decide +kernel
theorem dX7_levelsApart_19 : decode cX7_levelsApart 19 = .ok (.iaload, 1) := by decide +kernel
theorem dX7_levelsApart_20 : decode cX7_levelsApart 20 = .ok (.isub, 1) := by decide +kernel
theorem dX7_levelsApart_21 : decode cX7_levelsApart 21 = .ok (.istore_n 3, 1) := by decide +kernel
theorem dX7_levelsApart_22 : decode cX7_levelsApart 22 = .ok (.iload_n 3, 1) := by decide +kernel
theorem dX7_levelsApart_23 : decode cX7_levelsApart 23 = .ok (.ifCond .ge 8, 3) := by decide +kernel
theorem dX7_levelsApart_26 : decode cX7_levelsApart 26 = .ok (.iload_n 3, 1) := by decide +kernel
theorem dX7_levelsApart_27 : decode cX7_levelsApart 27 = .ok (.ineg, 1) := by decide +kernel
theorem dX7_levelsApart_28 : decode cX7_levelsApart 28 = .ok (.goto 4, 3) := by decide +kernel
theorem dX7_levelsApart_31 : decode cX7_levelsApart 31 = .ok (.iload_n 3, 1) := by decide +kernel
theorem dX7_levelsApart_32 : decode cX7_levelsApart 32 = .ok (.ireturn, 1) := by decide +kernel
theorem dX7_fitting_0 : decode cX7_fitting 0 = .ok (.iconst (-1), 1) := by decide +kernel
theorem dX7_fitting_1 : decode cX7_fitting 1 = .ok (.istore_n 2, 1) := by decide +kernel
theorem dX7_fitting_2 : decode cX7_fitting 2 = .ok (.iconst 0, 1) := by decide +kernel
theorem dX7_fitting_3 : decode cX7_fitting 3 = .ok (.istore_n 3, 1) := by decide +kernel
theorem dX7_fitting_4 : decode cX7_fitting 4 = .ok (.iload_n 3, 1) := by decide +kernel
theorem dX7_fitting_5 : decode cX7_fitting 5 = .ok (.aload_n 0, 1) := by decide +kernel
theorem dX7_fitting_6 : decode cX7_fitting 6 = .ok (.getfield 7, 3) := by decide +kernel
theorem dX7_fitting_9 : decode cX7_fitting 9 = .ok (.iconst 0, 1) := by decide +kernel
theorem dX7_fitting_10 : decode cX7_fitting 10 = .ok (.iaload, 1) := by decide +kernel
theorem dX7_fitting_11 : decode cX7_fitting 11 = .ok (.if_icmp .ge 163, 3) := by decide +kernel
theorem dX7_fitting_14 : decode cX7_fitting 14 = .ok (.aload_n 0, 1) := by decide +kernel
theorem dX7_fitting_15 : decode cX7_fitting 15 = .ok (.iload_n 1, 1) := by decide +kernel
theorem dX7_fitting_16 : decode cX7_fitting 16 = .ok (.invokevirtual 47, 3) := by decide +kernel
theorem dX7_fitting_19 : decode cX7_fitting 19 = .ok (.ifCond .le 155, 3) := by decide +kernel
theorem dX7_fitting_22 : decode cX7_fitting 22 = .ok (.iload_n 3, 1) := by decide +kernel
theorem dX7_fitting_23 : decode cX7_fitting 23 = .ok (.iload_n 1, 1) := by decide +kernel
theorem dX7_fitting_24 : decode cX7_fitting 24 = .ok (.if_icmp .eq 72, 3) := by decide +kernel
theorem dX7_fitting_27 : decode cX7_fitting 27 = .ok (.aload_n 0, 1) := by decide +kernel
theorem dX7_fitting_28 : decode cX7_fitting 28 = .ok (.iload_n 3, 1) := by decide +kernel
theorem dX7_fitting_29 : decode cX7_fitting 29 = .ok (.invokevirtual 43, 3) := by decide +kernel
theorem dX7_fitting_32 : decode cX7_fitting 32 = .ok (.ifCond .eq 64, 3) := by decide +kernel
theorem dX7_fitting_35 : decode cX7_fitting 35 = .ok (.aload_n 0, 1) := by decide +kernel
theorem dX7_fitting_36 : decode cX7_fitting 36 = .ok (.getfield 7, 3) := by decide +kernel
theorem dX7_fitting_39 : decode cX7_fitting 39 = .ok (.iload_n 3, 1) := by decide +kernel
theorem dX7_fitting_40 : decode cX7_fitting 40 = .ok (.iconst 0, 1) := by decide +kernel
theorem dX7_fitting_41 : decode cX7_fitting 41 = .ok (.invokestatic 40, 3) := by decide +kernel
theorem dX7_fitting_44 : decode cX7_fitting 44 = .ok (.iaload, 1) := by decide +kernel
theorem dX7_fitting_45 : decode cX7_fitting 45 = .ok (.aload_n 0, 1) := by decide +kernel
theorem dX7_fitting_46 : decode cX7_fitting 46 = .ok (.getfield 7, 3) := by decide +kernel
theorem dX7_fitting_49 : decode cX7_fitting 49 = .ok (.iload_n 1, 1) := by decide +kernel
theorem dX7_fitting_50 : decode cX7_fitting 50 = .ok (.iconst 0, 1) := by decide +kernel
theorem dX7_fitting_51 : decode cX7_fitting 51 = .ok (.invokestatic 40, 3) := by decide +kernel
theorem dX7_fitting_54 : decode cX7_fitting 54 = .ok (.iaload, 1) := by decide +kernel
theorem dX7_fitting_55 : decode cX7_fitting 55 = .ok (.if_icmp .ne 41, 3) := by decide +kernel
theorem dX7_fitting_58 : decode cX7_fitting 58 = .ok (.aload_n 0, 1) := by decide +kernel
theorem dX7_fitting_59 : decode cX7_fitting 59 = .ok (.iload_n 3, 1) := by decide +kernel
theorem dX7_fitting_60 : decode cX7_fitting 60 = .ok (.iload_n 1, 1) := by decide +kernel
theorem dX7_fitting_61 : decode cX7_fitting 61 = .ok (.invokevirtual 74, 3) := by decide +kernel
theorem dX7_fitting_64 : decode cX7_fitting 64 = .ok (.iconst 2, 1) := by decide +kernel
theorem dX7_fitting_65 : decode cX7_fitting 65 = .ok (.if_icmp .ge 31, 3) := by decide +kernel
theorem dX7_fitting_68 : decode cX7_fitting 68 = .ok (.aload_n 0, 1) := by decide +kernel
theorem dX7_fitting_69 : decode cX7_fitting 69 = .ok (.iload_n 3, 1) := by decide +kernel
theorem dX7_fitting_70 : decode cX7_fitting 70 = .ok (.invokevirtual 47, 3) := by decide +kernel
theorem dX7_fitting_73 : decode cX7_fitting 73 = .ok (.aload_n 0, 1) := by decide +kernel
theorem dX7_fitting_74 : decode cX7_fitting 74 = .ok (.iload_n 1, 1) := by decide +kernel
theorem dX7_fitting_75 : decode cX7_fitting 75 = .ok (.invokevirtual 47, 3) := by decide +kernel
theorem dX7_fitting_78 : decode cX7_fitting 78 = .ok (.iadd, 1) := by decide +kernel
theorem dX7_fitting_79 : decode cX7_fitting 79 = .ok (.aload_n 0, 1) := by decide +kernel
theorem dX7_fitting_80 : decode cX7_fitting 80 = .ok (.getfield 7, 3) := by decide +kernel
theorem dX7_fitting_83 : decode cX7_fitting 83 = .ok (.iload_n 3, 1) := by decide +kernel
theorem dX7_fitting_84 : decode cX7_fitting 84 = .ok (.iconst 4, 1) := by decide +kernel
theorem dX7_fitting_85 : decode cX7_fitting 85 = .ok (.invokestatic 40, 3) := by decide +kernel
theorem dX7_fitting_88 : decode cX7_fitting 88 = .ok (.iaload, 1) := by decide +kernel
theorem dX7_fitting_89 : decode cX7_fitting 89 = .ok (.if_icmp .gt 7, 3) := by decide +kernel
theorem dX7_fitting_92 : decode cX7_fitting 92 = .ok (.iconst 1, 1) := by decide +kernel
theorem dX7_fitting_93 : decode cX7_fitting 93 = .ok (.goto 4, 3) := by decide +kernel
theorem dX7_fitting_96 : decode cX7_fitting 96 = .ok (.iconst 0, 1) := by decide +kernel
theorem dX7_fitting_97 : decode cX7_fitting 97 = .ok (.istore 4, 2) := by decide +kernel
theorem dX7_fitting_99 : decode cX7_fitting 99 = .ok (.iload_n 2, 1) := by decide +kernel
theorem dX7_fitting_100 : decode cX7_fitting 100 = .ok (.ifCond .ge 7, 3) := by decide +kernel
theorem dX7_fitting_103 : decode cX7_fitting 103 = .ok (.iconst 1, 1) := by decide +kernel
theorem dX7_fitting_104 : decode cX7_fitting 104 = .ok (.goto 16, 3) := by decide +kernel
theorem dX7_fitting_107 : decode cX7_fitting 107 = .ok (.aload_n 0, 1) := by decide +kernel
theorem dX7_fitting_108 : decode cX7_fitting 108 = .ok (.iload_n 2, 1) := by decide +kernel
theorem dX7_fitting_109 : decode cX7_fitting 109 = .ok (.iload_n 1, 1) := by decide +kernel
theorem dX7_fitting_110 : decode cX7_fitting 110 = .ok (.invokevirtual 74, 3) := by decide +kernel
theorem dX7_fitting_113 : decode cX7_fitting 113 = .ok (.aload_n 0, 1) := by decide +kernel
theorem dX7_fitting_114 : decode cX7_fitting 114 = .ok (.iload_n 3, 1) := by decide +kernel
theorem dX7_fitting_115 : decode cX7_fitting 115 = .ok (.iload_n 1, 1) := by decide +kernel
theorem dX7_fitting_116 : decode cX7_fitting 116 = .ok (.invokevirtual 74, 3) := by decide +kernel
theorem dX7_fitting_119 : decode cX7_fitting 119 = .ok (.isub, 1) := by decide +kernel
theorem dX7_fitting_120 : decode cX7_fitting 120 = .ok (.istore 5, 2) := by decide +kernel
theorem dX7_fitting_122 : decode cX7_fitting 122 = .ok (.iload 5, 2) := by decide +kernel
theorem dX7_fitting_124 : decode cX7_fitting 124 = .ok (.ifCond .gt 21, 3) := by decide +kernel
theorem dX7_fitting_127 : decode cX7_fitting 127 = .ok (.iload 5, 2) := by decide +kernel
theorem dX7_fitting_129 : decode cX7_fitting 129 = .ok (.ifCond .ne 20, 3) := by decide +kernel
theorem dX7_fitting_132 : decode cX7_fitting 132 = .ok (.aload_n 0, 1) := by decide +kernel
theorem dX7_fitting_133 : decode cX7_fitting 133 = .ok (.iload_n 3, 1) := by decide +kernel
theorem dX7_fitting_134 : decode cX7_fitting 134 = .ok (.invokevirtual 47, 3) := by decide +kernel
theorem dX7_fitting_137 : decode cX7_fitting 137 = .ok (.aload_n 0, 1) := by decide +kernel
theorem dX7_fitting_138 : decode cX7_fitting 138 = .ok (.iload_n 2, 1) := by decide +kernel
theorem dX7_fitting_139 : decode cX7_fitting 139 = .ok (.invokevirtual 47, 3) := by decide +kernel
theorem dX7_fitting_142 : decode cX7_fitting 142 = .ok (.if_icmp .le 7, 3) := by decide +kernel
theorem dX7_fitting_145 : decode cX7_fitting 145 = .ok (.iconst 1, 1) := by decide +kernel
theorem dX7_fitting_146 : decode cX7_fitting 146 = .ok (.goto 4, 3) := by decide +kernel
theorem dX7_fitting_149 : decode cX7_fitting 149 = .ok (.iconst 0, 1) := by decide +kernel
theorem dX7_fitting_150 : decode cX7_fitting 150 = .ok (.istore 6, 2) := by decide +kernel
theorem dX7_fitting_152 : decode cX7_fitting 152 = .ok (.iload 4, 2) := by decide +kernel
theorem dX7_fitting_154 : decode cX7_fitting 154 = .ok (.ifCond .eq 12, 3) := by decide +kernel
theorem dX7_fitting_157 : decode cX7_fitting 157 = .ok (.iload 6, 2) := by decide +kernel
theorem dX7_fitting_159 : decode cX7_fitting 159 = .ok (.ifCond .eq 7, 3) := by decide +kernel
theorem dX7_fitting_162 : decode cX7_fitting 162 = .ok (.iload_n 3, 1) := by decide +kernel
theorem dX7_fitting_163 : decode cX7_fitting 163 = .ok (.goto 4, 3) := by decide +kernel
theorem dX7_fitting_166 : decode cX7_fitting 166 = .ok (.iload_n 2, 1) := by decide +kernel
theorem dX7_fitting_167 : decode cX7_fitting 167 = .ok (.istore_n 2, 1) := by decide +kernel
theorem dX7_fitting_168 : decode cX7_fitting 168 = .ok (.iinc 3 1, 3) := by decide +kernel
theorem dX7_fitting_171 : decode cX7_fitting 171 = .ok (.goto (-167), 3) := by decide +kernel
theorem dX7_fitting_174 : decode cX7_fitting 174 = .ok (.iload_n 2, 1) := by decide +kernel
theorem dX7_fitting_175 : decode cX7_fitting 175 = .ok (.ireturn, 1) := by decide +kernel
theorem dX7_merges_0 : decode cX7_merges 0 = .ok (.aload_n 0, 1) := by decide +kernel
theorem dX7_merges_1 : decode cX7_merges 1 = .ok (.iload_n 1, 1) := by decide +kernel
theorem dX7_merges_2 : decode cX7_merges 2 = .ok (.invokevirtual 47, 3) := by decide +kernel
theorem dX7_merges_5 : decode cX7_merges 5 = .ok (.istore_n 3, 1) := by decide +kernel
theorem dX7_merges_6 : decode cX7_merges 6 = .ok (.iconst 0, 1) := by decide +kernel
theorem dX7_merges_7 : decode cX7_merges 7 = .ok (.istore 4, 2) := by decide +kernel
theorem dX7_merges_9 : decode cX7_merges 9 = .ok (.iload 4, 2) := by decide +kernel
theorem dX7_merges_11 : decode cX7_merges 11 = .ok (.iload_n 3, 1) := by decide +kernel
theorem dX7_merges_12 : decode cX7_merges 12 = .ok (.if_icmp .ge 103, 3) := by decide +kernel
theorem dX7_merges_15 : decode cX7_merges 15 = .ok (.aload_n 0, 1) := by decide +kernel
theorem dX7_merges_16 : decode cX7_merges 16 = .ok (.getfield 7, 3) := by decide +kernel
theorem dX7_merges_19 : decode cX7_merges 19 = .ok (.iload_n 1, 1) := by decide +kernel
theorem dX7_merges_20 : decode cX7_merges 20 = .ok (.bipush 11, 2) := by decide +kernel
theorem dX7_merges_22 : decode cX7_merges 22 = .ok (.iload 4, 2) := by decide +kernel
theorem dX7_merges_24 : decode cX7_merges 24 = .ok (.iadd, 1) := by decide +kernel
theorem dX7_merges_25 : decode cX7_merges 25 = .ok (.invokestatic 40, 3) := by decide +kernel
theorem dX7_merges_28 : decode cX7_merges 28 = .ok (.iaload, 1) := by decide +kernel
theorem dX7_merges_29 : decode cX7_merges 29 = .ok (.istore 5, 2) := by decide +kernel
theorem dX7_merges_31 : decode cX7_merges 31 = .ok (.aload_n 0, 1) := by decide +kernel
theorem dX7_merges_32 : decode cX7_merges 32 = .ok (.iload 5, 2) := by decide +kernel
theorem dX7_merges_34 : decode cX7_merges 34 = .ok (.iload_n 2, 1) := by decide +kernel
theorem dX7_merges_35 : decode cX7_merges 35 = .ok (.invokevirtual 70, 3) := by decide +kernel
theorem dX7_merges_38 : decode cX7_merges 38 = .ok (.aload_n 0, 1) := by decide +kernel
theorem dX7_merges_39 : decode cX7_merges 39 = .ok (.getfield 7, 3) := by decide +kernel
theorem dX7_merges_42 : decode cX7_merges 42 = .ok (.iload 5, 2) := by decide +kernel
theorem dX7_merges_44 : decode cX7_merges 44 = .ok (.iconst 5, 1) := by decide +kernel
theorem dX7_merges_45 : decode cX7_merges 45 = .ok (.invokestatic 36, 3) := by decide +kernel
theorem dX7_merges_48 : decode cX7_merges 48 = .ok (.iaload, 1) := by decide +kernel
theorem dX7_merges_49 : decode cX7_merges 49 = .ok (.aload_n 0, 1) := by decide +kernel
theorem dX7_merges_50 : decode cX7_merges 50 = .ok (.getfield 7, 3) := by decide +kernel
theorem dX7_merges_53 : decode cX7_merges 53 = .ok (.iload_n 2, 1) := by decide +kernel
theorem dX7_merges_54 : decode cX7_merges 54 = .ok (.iconst 5, 1) := by decide +kernel
theorem dX7_merges_55 : decode cX7_merges 55 = .ok (.invokestatic 40, 3) := by decide +kernel
theorem dX7_merges_58 : decode cX7_merges 58 = .ok (.iaload, 1) := by decide +kernel
theorem dX7_merges_59 : decode cX7_merges 59 = .ok (.isub, 1) := by decide +kernel
theorem dX7_merges_60 : decode cX7_merges 60 = .ok (.istore 6, 2) := by decide +kernel
theorem dX7_merges_62 : decode cX7_merges 62 = .ok (.aload_n 0, 1) := by decide +kernel
theorem dX7_merges_63 : decode cX7_merges 63 = .ok (.getfield 7, 3) := by decide +kernel
theorem dX7_merges_66 : decode cX7_merges 66 = .ok (.sipush 549, 3) := by decide +kernel
theorem dX7_merges_69 : decode cX7_merges 69 = .ok (.dup2, 1) := by decide +kernel
theorem dX7_merges_70 : decode cX7_merges 70 = .ok (.iaload, 1) := by decide +kernel
theorem dX7_merges_71 : decode cX7_merges 71 = .ok (.iload 6, 2) := by decide +kernel
theorem dX7_merges_73 : decode cX7_merges 73 = .ok (.ifCond .le 8, 3) := by decide +kernel
theorem dX7_merges_76 : decode cX7_merges 76 = .ok (.iload 6, 2) := by decide +kernel
theorem dX7_merges_78 : decode cX7_merges 78 = .ok (.goto 4, 3) := by decide +kernel
theorem dX7_merges_81 : decode cX7_merges 81 = .ok (.iconst 0, 1) := by decide +kernel
theorem dX7_merges_82 : decode cX7_merges 82 = .ok (.iadd, 1) := by decide +kernel
theorem dX7_merges_83 : decode cX7_merges 83 = .ok (.iastore, 1) := by decide +kernel
theorem dX7_merges_84 : decode cX7_merges 84 = .ok (.aload_n 0, 1) := by decide +kernel
theorem dX7_merges_85 : decode cX7_merges 85 = .ok (.getfield 7, 3) := by decide +kernel
theorem dX7_merges_88 : decode cX7_merges 88 = .ok (.iload 5, 2) := by decide +kernel
theorem dX7_merges_90 : decode cX7_merges 90 = .ok (.iconst 5, 1) := by decide +kernel
theorem dX7_merges_91 : decode cX7_merges 91 = .ok (.invokestatic 36, 3) := by decide +kernel
theorem dX7_merges_94 : decode cX7_merges 94 = .ok (.dup2, 1) := by decide +kernel
theorem dX7_merges_95 : decode cX7_merges 95 = .ok (.iaload, 1) := by decide +kernel
theorem dX7_merges_96 : decode cX7_merges 96 = .ok (.iload 6, 2) := by decide +kernel
theorem dX7_merges_98 : decode cX7_merges 98 = .ok (.ifCond .le 8, 3) := by decide +kernel
theorem dX7_merges_101 : decode cX7_merges 101 = .ok (.iload 6, 2) := by decide +kernel
theorem dX7_merges_103 : decode cX7_merges 103 = .ok (.goto 4, 3) := by decide +kernel
theorem dX7_merges_106 : decode cX7_merges 106 = .ok (.iconst 0, 1) := by decide +kernel
theorem dX7_merges_107 : decode cX7_merges 107 = .ok (.isub, 1) := by decide +kernel
theorem dX7_merges_108 : decode cX7_merges 108 = .ok (.iastore, 1) := by decide +kernel
theorem dX7_merges_109 : decode cX7_merges 109 = .ok (.iinc 4 1, 3) := by decide +kernel
theorem dX7_merges_112 : decode cX7_merges 112 = .ok (.goto (-103), 3) := by decide +kernel
theorem dX7_merges_115 : decode cX7_merges 115 = .ok (.aload_n 0, 1) := by decide +kernel
theorem dX7_merges_116 : decode cX7_merges 116 = .ok (.getfield 7, 3) := by decide +kernel
theorem dX7_merges_119 : decode cX7_merges 119 = .ok (.iload_n 1, 1) := by decide +kernel
theorem dX7_merges_120 : decode cX7_merges 120 = .ok (.bipush 10, 2) := by decide +kernel
theorem dX7_merges_122 : decode cX7_merges 122 = .ok (.invokestatic 40, 3) := by decide +kernel
theorem dX7_merges_125 : decode cX7_merges 125 = .ok (.iconst 0, 1) := by decide +kernel
theorem dX7_merges_126 : decode cX7_merges 126 = .ok (.iastore, 1) := by decide +kernel
theorem dX7_merges_127 : decode cX7_merges 127 = .ok (.aload_n 0, 1) := by decide +kernel
theorem dX7_merges_128 : decode cX7_merges 128 = .ok (.getfield 7, 3) := by decide +kernel
theorem dX7_merges_131 : decode cX7_merges 131 = .ok (.iload_n 1, 1) := by decide +kernel
theorem dX7_merges_132 : decode cX7_merges 132 = .ok (.bipush 6, 2) := by decide +kernel
theorem dX7_merges_134 : decode cX7_merges 134 = .ok (.invokestatic 40, 3) := by decide +kernel
theorem dX7_merges_137 : decode cX7_merges 137 = .ok (.iconst 3, 1) := by decide +kernel
theorem dX7_merges_138 : decode cX7_merges 138 = .ok (.iastore, 1) := by decide +kernel
theorem dX7_merges_139 : decode cX7_merges 139 = .ok (.aload_n 0, 1) := by decide +kernel
theorem dX7_merges_140 : decode cX7_merges 140 = .ok (.getfield 7, 3) := by decide +kernel
theorem dX7_merges_143 : decode cX7_merges 143 = .ok (.iload_n 1, 1) := by decide +kernel
theorem dX7_merges_144 : decode cX7_merges 144 = .ok (.bipush 8, 2) := by decide +kernel
theorem dX7_merges_146 : decode cX7_merges 146 = .ok (.invokestatic 40, 3) := by decide +kernel
theorem dX7_merges_149 : decode cX7_merges 149 = .ok (.iload_n 2, 1) := by decide +kernel
theorem dX7_merges_150 : decode cX7_merges 150 = .ok (.iastore, 1) := by decide +kernel
theorem dX7_merges_151 : decode cX7_merges 151 = .ok (.aload_n 0, 1) := by decide +kernel
theorem dX7_merges_152 : decode cX7_merges 152 = .ok (.getfield 7, 3) := by decide +kernel
theorem dX7_merges_155 : decode cX7_merges 155 = .ok (.iload_n 1, 1) := by decide +kernel
theorem dX7_merges_156 : decode cX7_merges 156 = .ok (.bipush 9, 2) := by decide +kernel
theorem dX7_merges_158 : decode cX7_merges 158 = .ok (.invokestatic 40, 3) := by decide +kernel
theorem dX7_merges_161 : decode cX7_merges 161 = .ok (.iconst 1, 1) := by decide +kernel
theorem dX7_merges_162 : decode cX7_merges 162 = .ok (.iastore, 1) := by decide +kernel
theorem dX7_merges_163 : decode cX7_merges 163 = .ok (.aload_n 0, 1) := by decide +kernel
theorem dX7_merges_164 : decode cX7_merges 164 = .ok (.getfield 7, 3) := by decide +kernel
theorem dX7_merges_167 : decode cX7_merges 167 = .ok (.sipush 552, 3) := by decide +kernel
theorem dX7_merges_170 : decode cX7_merges 170 = .ok (.dup2, 1) := by decide +kernel
theorem dX7_merges_171 : decode cX7_merges 171 = .ok (.iaload, 1) := by decide +kernel
theorem dX7_merges_172 : decode cX7_merges 172 = .ok (.iconst 1, 1) := by decide +kernel
theorem dX7_merges_173 : decode cX7_merges 173 = .ok (.iadd, 1) := by decide +kernel
theorem dX7_merges_174 : decode cX7_merges 174 = .ok (.iastore, 1) := by decide +kernel
theorem dX7_merges_175 : decode cX7_merges 175 = .ok (.return_, 1) := by decide +kernel
theorem dX7_smallest_0 : decode cX7_smallest 0 = .ok (.iconst (-1), 1) := by decide +kernel
theorem dX7_smallest_1 : decode cX7_smallest 1 = .ok (.istore_n 1, 1) := by decide +kernel
theorem dX7_smallest_2 : decode cX7_smallest 2 = .ok (.iconst 0, 1) := by decide +kernel
theorem dX7_smallest_3 : decode cX7_smallest 3 = .ok (.istore_n 2, 1) := by decide +kernel
theorem dX7_smallest_4 : decode cX7_smallest 4 = .ok (.iload_n 2, 1) := by decide +kernel
theorem dX7_smallest_5 : decode cX7_smallest 5 = .ok (.aload_n 0, 1) := by decide +kernel
theorem dX7_smallest_6 : decode cX7_smallest 6 = .ok (.getfield 7, 3) := by decide +kernel
theorem dX7_smallest_9 : decode cX7_smallest 9 = .ok (.iconst 0, 1) := by decide +kernel
theorem dX7_smallest_10 : decode cX7_smallest 10 = .ok (.iaload, 1) := by decide +kernel
theorem dX7_smallest_11 : decode cX7_smallest 11 = .ok (.if_icmp .ge 68, 3) := by decide +kernel
theorem dX7_smallest_14 : decode cX7_smallest 14 = .ok (.aload_n 0, 1) := by decide +kernel
theorem dX7_smallest_15 : decode cX7_smallest 15 = .ok (.iload_n 2, 1) := by decide +kernel
theorem dX7_smallest_16 : decode cX7_smallest 16 = .ok (.invokevirtual 43, 3) := by decide +kernel
theorem dX7_smallest_19 : decode cX7_smallest 19 = .ok (.ifCond .eq 25, 3) := by decide +kernel
theorem dX7_smallest_22 : decode cX7_smallest 22 = .ok (.aload_n 0, 1) := by decide +kernel
theorem dX7_smallest_23 : decode cX7_smallest 23 = .ok (.iload_n 2, 1) := by decide +kernel
theorem dX7_smallest_24 : decode cX7_smallest 24 = .ok (.invokevirtual 47, 3) := by decide +kernel
theorem dX7_smallest_27 : decode cX7_smallest 27 = .ok (.aload_n 0, 1) := by decide +kernel
theorem dX7_smallest_28 : decode cX7_smallest 28 = .ok (.getfield 7, 3) := by decide +kernel
theorem dX7_smallest_31 : decode cX7_smallest 31 = .ok (.iload_n 2, 1) := by decide +kernel
theorem dX7_smallest_32 : decode cX7_smallest 32 = .ok (.iconst 3, 1) := by decide +kernel
theorem dX7_smallest_33 : decode cX7_smallest 33 = .ok (.invokestatic 40, 3) := by decide +kernel
theorem dX7_smallest_36 : decode cX7_smallest 36 = .ok (.iaload, 1) := by decide +kernel
theorem dX7_smallest_37 : decode cX7_smallest 37 = .ok (.if_icmp .ge 7, 3) := by decide +kernel
theorem dX7_smallest_40 : decode cX7_smallest 40 = .ok (.iconst 1, 1) := by decide +kernel
theorem dX7_smallest_41 : decode cX7_smallest 41 = .ok (.goto 4, 3) := by decide +kernel
theorem dX7_smallest_44 : decode cX7_smallest 44 = .ok (.iconst 0, 1) := by decide +kernel
theorem dX7_smallest_45 : decode cX7_smallest 45 = .ok (.istore_n 3, 1) := by decide +kernel
theorem dX7_smallest_46 : decode cX7_smallest 46 = .ok (.iload_n 3, 1) := by decide +kernel
theorem dX7_smallest_47 : decode cX7_smallest 47 = .ok (.ifCond .eq 24, 3) := by decide +kernel
theorem dX7_smallest_50 : decode cX7_smallest 50 = .ok (.iload_n 1, 1) := by decide +kernel
theorem dX7_smallest_51 : decode cX7_smallest 51 = .ok (.ifCond .lt 16, 3) := by decide +kernel
theorem dX7_smallest_54 : decode cX7_smallest 54 = .ok (.aload_n 0, 1) := by decide +kernel
theorem dX7_smallest_55 : decode cX7_smallest 55 = .ok (.iload_n 2, 1) := by decide +kernel
theorem dX7_smallest_56 : decode cX7_smallest 56 = .ok (.invokevirtual 47, 3) := by decide +kernel
theorem dX7_smallest_59 : decode cX7_smallest 59 = .ok (.aload_n 0, 1) := by decide +kernel
theorem dX7_smallest_60 : decode cX7_smallest 60 = .ok (.iload_n 1, 1) := by decide +kernel
theorem dX7_smallest_61 : decode cX7_smallest 61 = .ok (.invokevirtual 47, 3) := by decide +kernel
theorem dX7_smallest_64 : decode cX7_smallest 64 = .ok (.if_icmp .ge 7, 3) := by decide +kernel
theorem dX7_smallest_67 : decode cX7_smallest 67 = .ok (.iload_n 2, 1) := by decide +kernel
theorem dX7_smallest_68 : decode cX7_smallest 68 = .ok (.goto 4, 3) := by decide +kernel
theorem dX7_smallest_71 : decode cX7_smallest 71 = .ok (.iload_n 1, 1) := by decide +kernel
theorem dX7_smallest_72 : decode cX7_smallest 72 = .ok (.istore_n 1, 1) := by decide +kernel
theorem dX7_smallest_73 : decode cX7_smallest 73 = .ok (.iinc 2 1, 3) := by decide +kernel
theorem dX7_smallest_76 : decode cX7_smallest 76 = .ok (.goto (-72), 3) := by decide +kernel
theorem dX7_smallest_79 : decode cX7_smallest 79 = .ok (.iload_n 1, 1) := by decide +kernel
theorem dX7_smallest_80 : decode cX7_smallest 80 = .ok (.ireturn, 1) := by decide +kernel
theorem dX7_greatest_0 : decode cX7_greatest 0 = .ok (.iconst (-1), 1) := by decide +kernel
theorem dX7_greatest_1 : decode cX7_greatest 1 = .ok (.istore_n 1, 1) := by decide +kernel
theorem dX7_greatest_2 : decode cX7_greatest 2 = .ok (.iconst 0, 1) := by decide +kernel
theorem dX7_greatest_3 : decode cX7_greatest 3 = .ok (.istore_n 2, 1) := by decide +kernel
theorem dX7_greatest_4 : decode cX7_greatest 4 = .ok (.iload_n 2, 1) := by decide +kernel
theorem dX7_greatest_5 : decode cX7_greatest 5 = .ok (.aload_n 0, 1) := by decide +kernel
theorem dX7_greatest_6 : decode cX7_greatest 6 = .ok (.getfield 7, 3) := by decide +kernel
theorem dX7_greatest_9 : decode cX7_greatest 9 = .ok (.iconst 0, 1) := by decide +kernel
theorem dX7_greatest_10 : decode cX7_greatest 10 = .ok (.iaload, 1) := by decide +kernel
theorem dX7_greatest_11 : decode cX7_greatest 11 = .ok (.if_icmp .ge 40, 3) := by decide +kernel
theorem dX7_greatest_14 : decode cX7_greatest 14 = .ok (.aload_n 0, 1) := by decide +kernel
theorem dX7_greatest_15 : decode cX7_greatest 15 = .ok (.iload_n 2, 1) := by decide +kernel
theorem dX7_greatest_16 : decode cX7_greatest 16 = .ok (.invokevirtual 43, 3) := by decide +kernel
theorem dX7_greatest_19 : decode cX7_greatest 19 = .ok (.ifCond .eq 24, 3) := by decide +kernel
theorem dX7_greatest_22 : decode cX7_greatest 22 = .ok (.iload_n 1, 1) := by decide +kernel
theorem dX7_greatest_23 : decode cX7_greatest 23 = .ok (.ifCond .lt 16, 3) := by decide +kernel
theorem dX7_greatest_26 : decode cX7_greatest 26 = .ok (.aload_n 0, 1) := by decide +kernel
theorem dX7_greatest_27 : decode cX7_greatest 27 = .ok (.iload_n 2, 1) := by decide +kernel
theorem dX7_greatest_28 : decode cX7_greatest 28 = .ok (.invokevirtual 47, 3) := by decide +kernel
theorem dX7_greatest_31 : decode cX7_greatest 31 = .ok (.aload_n 0, 1) := by decide +kernel
theorem dX7_greatest_32 : decode cX7_greatest 32 = .ok (.iload_n 1, 1) := by decide +kernel
theorem dX7_greatest_33 : decode cX7_greatest 33 = .ok (.invokevirtual 47, 3) := by decide +kernel
theorem dX7_greatest_36 : decode cX7_greatest 36 = .ok (.if_icmp .le 7, 3) := by decide +kernel
theorem dX7_greatest_39 : decode cX7_greatest 39 = .ok (.iload_n 2, 1) := by decide +kernel
theorem dX7_greatest_40 : decode cX7_greatest 40 = .ok (.goto 4, 3) := by decide +kernel
theorem dX7_greatest_43 : decode cX7_greatest 43 = .ok (.iload_n 1, 1) := by decide +kernel
theorem dX7_greatest_44 : decode cX7_greatest 44 = .ok (.istore_n 1, 1) := by decide +kernel
theorem dX7_greatest_45 : decode cX7_greatest 45 = .ok (.iinc 2 1, 3) := by decide +kernel
theorem dX7_greatest_48 : decode cX7_greatest 48 = .ok (.goto (-44), 3) := by decide +kernel
theorem dX7_greatest_51 : decode cX7_greatest 51 = .ok (.iload_n 1, 1) := by decide +kernel
theorem dX7_greatest_52 : decode cX7_greatest 52 = .ok (.ireturn, 1) := by decide +kernel
theorem dX7_isTaken_0 : decode cX7_isTaken 0 = .ok (.iconst 0, 1) := by decide +kernel
theorem dX7_isTaken_1 : decode cX7_isTaken 1 = .ok (.istore_n 3, 1) := by decide +kernel
theorem dX7_isTaken_2 : decode cX7_isTaken 2 = .ok (.iconst 0, 1) := by decide +kernel
theorem dX7_isTaken_3 : decode cX7_isTaken 3 = .ok (.istore 4, 2) := by decide +kernel
theorem dX7_isTaken_5 : decode cX7_isTaken 5 = .ok (.iload 4, 2) := by decide +kernel
theorem dX7_isTaken_7 : decode cX7_isTaken 7 = .ok (.aload_n 0, 1) := by decide +kernel
theorem dX7_isTaken_8 : decode cX7_isTaken 8 = .ok (.getfield 7, 3) := by decide +kernel
theorem dX7_isTaken_11 : decode cX7_isTaken 11 = .ok (.iconst 0, 1) := by decide +kernel
theorem dX7_isTaken_12 : decode cX7_isTaken 12 = .ok (.iaload, 1) := by decide +kernel
theorem dX7_isTaken_13 : decode cX7_isTaken 13 = .ok (.if_icmp .ge 50, 3) := by decide +kernel
theorem dX7_isTaken_16 : decode cX7_isTaken 16 = .ok (.iload_n 3, 1) := by decide +kernel
theorem dX7_isTaken_17 : decode cX7_isTaken 17 = .ok (.ifCond .ne 34, 3) := by decide +kernel
theorem dX7_isTaken_20 : decode cX7_isTaken 20 = .ok (.aload_n 0, 1) := by decide +kernel
theorem dX7_isTaken_21 : decode cX7_isTaken 21 = .ok (.getfield 7, 3) := by decide +kernel
theorem dX7_isTaken_24 : decode cX7_isTaken 24 = .ok (.iload 4, 2) := by decide +kernel
theorem dX7_isTaken_26 : decode cX7_isTaken 26 = .ok (.bipush 7, 2) := by decide +kernel
theorem dX7_isTaken_28 : decode cX7_isTaken 28 = .ok (.invokestatic 40, 3) := by decide +kernel
theorem dX7_isTaken_31 : decode cX7_isTaken 31 = .ok (.iaload, 1) := by decide +kernel
theorem dX7_isTaken_32 : decode cX7_isTaken 32 = .ok (.iload_n 1, 1) := by decide +kernel
theorem dX7_isTaken_33 : decode cX7_isTaken 33 = .ok (.if_icmp .ne 22, 3) := by decide +kernel
theorem dX7_isTaken_36 : decode cX7_isTaken 36 = .ok (.aload_n 0, 1) := by decide +kernel
theorem dX7_isTaken_37 : decode cX7_isTaken 37 = .ok (.getfield 7, 3) := by decide +kernel
theorem dX7_isTaken_40 : decode cX7_isTaken 40 = .ok (.iload 4, 2) := by decide +kernel
theorem dX7_isTaken_42 : decode cX7_isTaken 42 = .ok (.iconst 2, 1) := by decide +kernel
theorem dX7_isTaken_43 : decode cX7_isTaken 43 = .ok (.invokestatic 40, 3) := by decide +kernel
theorem dX7_isTaken_46 : decode cX7_isTaken 46 = .ok (.iaload, 1) := by decide +kernel
theorem dX7_isTaken_47 : decode cX7_isTaken 47 = .ok (.iload_n 2, 1) := by decide +kernel
theorem dX7_isTaken_48 : decode cX7_isTaken 48 = .ok (.if_icmp .ne 7, 3) := by decide +kernel
theorem dX7_isTaken_51 : decode cX7_isTaken 51 = .ok (.iconst 1, 1) := by decide +kernel
theorem dX7_isTaken_52 : decode cX7_isTaken 52 = .ok (.goto 4, 3) := by decide +kernel
theorem dX7_isTaken_55 : decode cX7_isTaken 55 = .ok (.iconst 0, 1) := by decide +kernel
theorem dX7_isTaken_56 : decode cX7_isTaken 56 = .ok (.istore_n 3, 1) := by decide +kernel
theorem dX7_isTaken_57 : decode cX7_isTaken 57 = .ok (.iinc 4 1, 3) := by decide +kernel
theorem dX7_isTaken_60 : decode cX7_isTaken 60 = .ok (.goto (-55), 3) := by decide +kernel
theorem dX7_isTaken_63 : decode cX7_isTaken 63 = .ok (.iload_n 3, 1) := by decide +kernel
theorem dX7_isTaken_64 : decode cX7_isTaken 64 = .ok (.ireturn, 1) := by decide +kernel
theorem dX7_roomFor_0 : decode cX7_roomFor 0 = .ok (.iconst (-1), 1) := by decide +kernel
theorem dX7_roomFor_1 : decode cX7_roomFor 1 = .ok (.istore_n 2, 1) := by decide +kernel
theorem dX7_roomFor_2 : decode cX7_roomFor 2 = .ok (.iconst 0, 1) := by decide +kernel
theorem dX7_roomFor_3 : decode cX7_roomFor 3 = .ok (.istore_n 3, 1) := by decide +kernel
theorem dX7_roomFor_4 : decode cX7_roomFor 4 = .ok (.iload_n 3, 1) := by decide +kernel
theorem dX7_roomFor_5 : decode cX7_roomFor 5 = .ok (.aload_n 0, 1) := by decide +kernel
theorem dX7_roomFor_6 : decode cX7_roomFor 6 = .ok (.getfield 7, 3) := by decide +kernel
theorem dX7_roomFor_9 : decode cX7_roomFor 9 = .ok (.sipush 329, 3) := by decide +kernel
theorem dX7_roomFor_12 : decode cX7_roomFor 12 = .ok (.iaload, 1) := by decide +kernel
theorem dX7_roomFor_13 : decode cX7_roomFor 13 = .ok (.if_icmp .ge 90, 3) := by decide +kernel
theorem dX7_roomFor_16 : decode cX7_roomFor 16 = .ok (.aload_n 0, 1) := by decide +kernel
theorem dX7_roomFor_17 : decode cX7_roomFor 17 = .ok (.getfield 7, 3) := by decide +kernel
theorem dX7_roomFor_20 : decode cX7_roomFor 20 = .ok (.sipush 330, 3) := by decide +kernel
theorem dX7_roomFor_23 : decode cX7_roomFor 23 = .ok (.iload_n 3, 1) := by decide +kernel
theorem dX7_roomFor_24 : decode cX7_roomFor 24 = .ok (.iadd, 1) := by decide +kernel
theorem dX7_roomFor_25 : decode cX7_roomFor 25 = .ok (.iaload, 1) := by decide +kernel
theorem dX7_roomFor_26 : decode cX7_roomFor 26 = .ok (.aload_n 0, 1) := by decide +kernel
theorem dX7_roomFor_27 : decode cX7_roomFor 27 = .ok (.iload_n 1, 1) := by decide +kernel
theorem dX7_roomFor_28 : decode cX7_roomFor 28 = .ok (.invokevirtual 47, 3) := by decide +kernel
theorem dX7_roomFor_31 : decode cX7_roomFor 31 = .ok (.if_icmp .lt 25, 3) := by decide +kernel
theorem dX7_roomFor_34 : decode cX7_roomFor 34 = .ok (.aload_n 0, 1) := by decide +kernel
theorem dX7_roomFor_35 : decode cX7_roomFor 35 = .ok (.iload_n 3, 1) := by decide +kernel
theorem dX7_roomFor_36 : decode cX7_roomFor 36 = .ok (.aload_n 0, 1) := by decide +kernel
theorem dX7_roomFor_37 : decode cX7_roomFor 37 = .ok (.getfield 7, 3) := by decide +kernel
theorem dX7_roomFor_40 : decode cX7_roomFor 40 = .ok (.iload_n 1, 1) := by decide +kernel
theorem dX7_roomFor_41 : decode cX7_roomFor 41 = .ok (.iconst 2, 1) := by decide +kernel
theorem dX7_roomFor_42 : decode cX7_roomFor 42 = .ok (.invokestatic 40, 3) := by decide +kernel
theorem dX7_roomFor_45 : decode cX7_roomFor 45 = .ok (.iaload, 1) := by decide +kernel
theorem dX7_roomFor_46 : decode cX7_roomFor 46 = .ok (.invokevirtual 77, 3) := by decide +kernel
theorem dX7_roomFor_49 : decode cX7_roomFor 49 = .ok (.ifCond .ne 7, 3) := by decide +kernel
theorem dX7_roomFor_52 : decode cX7_roomFor 52 = .ok (.iconst 1, 1) := by decide +kernel
theorem dX7_roomFor_53 : decode cX7_roomFor 53 = .ok (.goto 4, 3) := by decide +kernel
theorem dX7_roomFor_56 : decode cX7_roomFor 56 = .ok (.iconst 0, 1) := by decide +kernel
theorem dX7_roomFor_57 : decode cX7_roomFor 57 = .ok (.istore 4, 2) := by decide +kernel
theorem dX7_roomFor_59 : decode cX7_roomFor 59 = .ok (.iload 4, 2) := by decide +kernel
theorem dX7_roomFor_61 : decode cX7_roomFor 61 = .ok (.ifCond .eq 34, 3) := by decide +kernel
theorem dX7_roomFor_64 : decode cX7_roomFor 64 = .ok (.iload_n 2, 1) := by decide +kernel
theorem dX7_roomFor_65 : decode cX7_roomFor 65 = .ok (.ifCond .lt 26, 3) := by decide +kernel
theorem dX7_roomFor_68 : decode cX7_roomFor 68 = .ok (.aload_n 0, 1) := by decide +kernel
theorem dX7_roomFor_69 : decode cX7_roomFor 69 = .ok (.getfield 7, 3) := by decide +kernel
theorem dX7_roomFor_72 : decode cX7_roomFor 72 = .ok (.sipush 330, 3) := by decide +kernel
theorem dX7_roomFor_75 : decode cX7_roomFor 75 = .ok (.iload_n 3, 1) := by decide +kernel
theorem dX7_roomFor_76 : decode cX7_roomFor 76 = .ok (.iadd, 1) := by decide +kernel
theorem dX7_roomFor_77 : decode cX7_roomFor 77 = .ok (.iaload, 1) := by decide +kernel
theorem dX7_roomFor_78 : decode cX7_roomFor 78 = .ok (.aload_n 0, 1) := by decide +kernel
theorem dX7_roomFor_79 : decode cX7_roomFor 79 = .ok (.getfield 7, 3) := by decide +kernel
theorem dX7_roomFor_82 : decode cX7_roomFor 82 = .ok (.sipush 330, 3) := by decide +kernel
theorem dX7_roomFor_85 : decode cX7_roomFor 85 = .ok (.iload_n 2, 1) := by decide +kernel
theorem dX7_roomFor_86 : decode cX7_roomFor 86 = .ok (.iadd, 1) := by decide +kernel
theorem dX7_roomFor_87 : decode cX7_roomFor 87 = .ok (.iaload, 1) := by decide +kernel
theorem dX7_roomFor_88 : decode cX7_roomFor 88 = .ok (.if_icmp .ge 7, 3) := by decide +kernel
theorem dX7_roomFor_91 : decode cX7_roomFor 91 = .ok (.iload_n 3, 1) := by decide +kernel
theorem dX7_roomFor_92 : decode cX7_roomFor 92 = .ok (.goto 4, 3) := by decide +kernel
theorem dX7_roomFor_95 : decode cX7_roomFor 95 = .ok (.iload_n 2, 1) := by decide +kernel
theorem dX7_roomFor_96 : decode cX7_roomFor 96 = .ok (.istore_n 2, 1) := by decide +kernel
theorem dX7_roomFor_97 : decode cX7_roomFor 97 = .ok (.iinc 3 1, 3) := by decide +kernel
theorem dX7_roomFor_100 : decode cX7_roomFor 100 = .ok (.goto (-96), 3) := by decide +kernel
theorem dX7_roomFor_103 : decode cX7_roomFor 103 = .ok (.iload_n 2, 1) := by decide +kernel
theorem dX7_roomFor_104 : decode cX7_roomFor 104 = .ok (.ireturn, 1) := by decide +kernel
theorem dX7_closes_0 : decode cX7_closes 0 = .ok (.aload_n 0, 1) := by decide +kernel
theorem dX7_closes_1 : decode cX7_closes 1 = .ok (.invokevirtual 81, 3) := by decide +kernel
theorem dX7_closes_4 : decode cX7_closes 4 = .ok (.istore_n 1, 1) := by decide +kernel
theorem dX7_closes_5 : decode cX7_closes 5 = .ok (.iload_n 1, 1) := by decide +kernel
theorem dX7_closes_6 : decode cX7_closes 6 = .ok (.ifCond .lt 40, 3) := by decide +kernel
theorem dX7_closes_9 : decode cX7_closes 9 = .ok (.aload_n 0, 1) := by decide +kernel
theorem dX7_closes_10 : decode cX7_closes 10 = .ok (.iload_n 1, 1) := by decide +kernel
theorem dX7_closes_11 : decode cX7_closes 11 = .ok (.invokevirtual 85, 3) := by decide +kernel
theorem dX7_closes_14 : decode cX7_closes 14 = .ok (.istore_n 2, 1) := by decide +kernel
theorem dX7_closes_15 : decode cX7_closes 15 = .ok (.iload_n 2, 1) := by decide +kernel
theorem dX7_closes_16 : decode cX7_closes 16 = .ok (.ifCond .ge 12, 3) := by decide +kernel
theorem dX7_closes_19 : decode cX7_closes 19 = .ok (.aload_n 0, 1) := by decide +kernel
theorem dX7_closes_20 : decode cX7_closes 20 = .ok (.iload_n 1, 1) := by decide +kernel
theorem dX7_closes_21 : decode cX7_closes 21 = .ok (.iconst 2, 1) := by decide +kernel
theorem dX7_closes_22 : decode cX7_closes 22 = .ok (.invokevirtual 88, 3) := by decide +kernel
theorem dX7_closes_25 : decode cX7_closes 25 = .ok (.goto 9, 3) := by decide +kernel
theorem dX7_closes_28 : decode cX7_closes 28 = .ok (.aload_n 0, 1) := by decide +kernel
theorem dX7_closes_29 : decode cX7_closes 29 = .ok (.iload_n 1, 1) := by decide +kernel
theorem dX7_closes_30 : decode cX7_closes 30 = .ok (.iload_n 2, 1) := by decide +kernel
theorem dX7_closes_31 : decode cX7_closes 31 = .ok (.invokevirtual 91, 3) := by decide +kernel
theorem dX7_closes_34 : decode cX7_closes 34 = .ok (.aload_n 0, 1) := by decide +kernel
theorem dX7_closes_35 : decode cX7_closes 35 = .ok (.invokevirtual 94, 3) := by decide +kernel
theorem dX7_closes_38 : decode cX7_closes 38 = .ok (.aload_n 0, 1) := by decide +kernel
theorem dX7_closes_39 : decode cX7_closes 39 = .ok (.invokevirtual 81, 3) := by decide +kernel
theorem dX7_closes_42 : decode cX7_closes 42 = .ok (.istore_n 1, 1) := by decide +kernel
theorem dX7_closes_43 : decode cX7_closes 43 = .ok (.goto (-38), 3) := by decide +kernel
theorem dX7_closes_46 : decode cX7_closes 46 = .ok (.aload_n 0, 1) := by decide +kernel
theorem dX7_closes_47 : decode cX7_closes 47 = .ok (.invokevirtual 97, 3) := by decide +kernel
theorem dX7_closes_50 : decode cX7_closes 50 = .ok (.istore_n 1, 1) := by decide +kernel
theorem dX7_closes_51 : decode cX7_closes 51 = .ok (.iload_n 1, 1) := by decide +kernel
theorem dX7_closes_52 : decode cX7_closes 52 = .ok (.ifCond .lt 54, 3) := by decide +kernel
theorem dX7_closes_55 : decode cX7_closes 55 = .ok (.aload_n 0, 1) := by decide +kernel
theorem dX7_closes_56 : decode cX7_closes 56 = .ok (.iload_n 1, 1) := by decide +kernel
theorem dX7_closes_57 : decode cX7_closes 57 = .ok (.invokevirtual 100, 3) := by decide +kernel
theorem dX7_closes_60 : decode cX7_closes 60 = .ok (.istore_n 2, 1) := by decide +kernel
theorem dX7_closes_61 : decode cX7_closes 61 = .ok (.iload_n 2, 1) := by decide +kernel
theorem dX7_closes_62 : decode cX7_closes 62 = .ok (.ifCond .ge 12, 3) := by decide +kernel
theorem dX7_closes_65 : decode cX7_closes 65 = .ok (.aload_n 0, 1) := by decide +kernel
theorem dX7_closes_66 : decode cX7_closes 66 = .ok (.iload_n 1, 1) := by decide +kernel
theorem dX7_closes_67 : decode cX7_closes 67 = .ok (.iconst 3, 1) := by decide +kernel
theorem dX7_closes_68 : decode cX7_closes 68 = .ok (.invokevirtual 88, 3) := by decide +kernel
theorem dX7_closes_71 : decode cX7_closes 71 = .ok (.goto 27, 3) := by decide +kernel
theorem dX7_closes_74 : decode cX7_closes 74 = .ok (.aload_n 0, 1) := by decide +kernel
theorem dX7_closes_75 : decode cX7_closes 75 = .ok (.getfield 7, 3) := by decide +kernel
theorem dX7_closes_78 : decode cX7_closes 78 = .ok (.iload_n 1, 1) := by decide +kernel
theorem dX7_closes_79 : decode cX7_closes 79 = .ok (.bipush 7, 2) := by decide +kernel
theorem dX7_closes_81 : decode cX7_closes 81 = .ok (.invokestatic 40, 3) := by decide +kernel
theorem dX7_closes_84 : decode cX7_closes 84 = .ok (.iload_n 2, 1) := by decide +kernel
theorem dX7_closes_85 : decode cX7_closes 85 = .ok (.iastore, 1) := by decide +kernel
theorem dX7_closes_86 : decode cX7_closes 86 = .ok (.aload_n 0, 1) := by decide +kernel
theorem dX7_closes_87 : decode cX7_closes 87 = .ok (.getfield 7, 3) := by decide +kernel
theorem dX7_closes_90 : decode cX7_closes 90 = .ok (.iload_n 1, 1) := by decide +kernel
theorem dX7_closes_91 : decode cX7_closes 91 = .ok (.bipush 6, 2) := by decide +kernel
theorem dX7_closes_93 : decode cX7_closes 93 = .ok (.invokestatic 40, 3) := by decide +kernel
theorem dX7_closes_96 : decode cX7_closes 96 = .ok (.iconst 1, 1) := by decide +kernel
theorem dX7_closes_97 : decode cX7_closes 97 = .ok (.iastore, 1) := by decide +kernel
theorem dX7_closes_98 : decode cX7_closes 98 = .ok (.aload_n 0, 1) := by decide +kernel
theorem dX7_closes_99 : decode cX7_closes 99 = .ok (.invokevirtual 97, 3) := by decide +kernel
theorem dX7_closes_102 : decode cX7_closes 102 = .ok (.istore_n 1, 1) := by decide +kernel
theorem dX7_closes_103 : decode cX7_closes 103 = .ok (.goto (-52), 3) := by decide +kernel
theorem dX7_closes_106 : decode cX7_closes 106 = .ok (.aload_n 0, 1) := by decide +kernel
theorem dX7_closes_107 : decode cX7_closes 107 = .ok (.getfield 7, 3) := by decide +kernel
theorem dX7_closes_110 : decode cX7_closes 110 = .ok (.sipush 547, 3) := by decide +kernel
theorem dX7_closes_113 : decode cX7_closes 113 = .ok (.iconst 1, 1) := by decide +kernel
theorem dX7_closes_114 : decode cX7_closes 114 = .ok (.iastore, 1) := by decide +kernel
theorem dX7_closes_115 : decode cX7_closes 115 = .ok (.return_, 1) := by decide +kernel
theorem dX7_inState_0 : decode cX7_inState 0 = .ok (.iconst 0, 1) := by decide +kernel
theorem dX7_inState_1 : decode cX7_inState 1 = .ok (.istore_n 2, 1) := by decide +kernel
theorem dX7_inState_2 : decode cX7_inState 2 = .ok (.iconst 0, 1) := by decide +kernel
theorem dX7_inState_3 : decode cX7_inState 3 = .ok (.istore_n 3, 1) := by decide +kernel
theorem dX7_inState_4 : decode cX7_inState 4 = .ok (.iload_n 3, 1) := by decide +kernel
theorem dX7_inState_5 : decode cX7_inState 5 = .ok (.aload_n 0, 1) := by decide +kernel
theorem dX7_inState_6 : decode cX7_inState 6 = .ok (.getfield 7, 3) := by decide +kernel
theorem dX7_inState_9 : decode cX7_inState 9 = .ok (.iconst 0, 1) := by decide +kernel
theorem dX7_inState_10 : decode cX7_inState 10 = .ok (.iaload, 1) := by decide +kernel
theorem dX7_inState_11 : decode cX7_inState 11 = .ok (.if_icmp .ge 34, 3) := by decide +kernel
theorem dX7_inState_14 : decode cX7_inState 14 = .ok (.iload_n 2, 1) := by decide +kernel
theorem dX7_inState_15 : decode cX7_inState 15 = .ok (.aload_n 0, 1) := by decide +kernel
theorem dX7_inState_16 : decode cX7_inState 16 = .ok (.getfield 7, 3) := by decide +kernel
theorem dX7_inState_19 : decode cX7_inState 19 = .ok (.iload_n 3, 1) := by decide +kernel
theorem dX7_inState_20 : decode cX7_inState 20 = .ok (.bipush 6, 2) := by decide +kernel
theorem dX7_inState_22 : decode cX7_inState 22 = .ok (.invokestatic 40, 3) := by decide +kernel
theorem dX7_inState_25 : decode cX7_inState 25 = .ok (.iaload, 1) := by decide +kernel
theorem dX7_inState_26 : decode cX7_inState 26 = .ok (.iload_n 1, 1) := by decide +kernel
theorem dX7_inState_27 : decode cX7_inState 27 = .ok (.if_icmp .ne 9, 3) := by decide +kernel
theorem dX7_inState_30 : decode cX7_inState 30 = .ok (.iconst 1, 1) := by decide +kernel
theorem dX7_inState_31 : decode cX7_inState 31 = .ok (.iload_n 3, 1) := by decide +kernel
theorem dX7_inState_32 : decode cX7_inState 32 = .ok (.ishl, 1) := by decide +kernel
theorem dX7_inState_33 : decode cX7_inState 33 = .ok (.goto 4, 3) := by decide +kernel
theorem dX7_inState_36 : decode cX7_inState 36 = .ok (.iconst 0, 1) := by decide +kernel
theorem dX7_inState_37 : decode cX7_inState 37 = .ok (.ior, 1) := by decide +kernel
theorem dX7_inState_38 : decode cX7_inState 38 = .ok (.istore_n 2, 1) := by decide +kernel
theorem dX7_inState_39 : decode cX7_inState 39 = .ok (.iinc 3 1, 3) := by decide +kernel
theorem dX7_inState_42 : decode cX7_inState 42 = .ok (.goto (-38), 3) := by decide +kernel
theorem dX7_inState_45 : decode cX7_inState 45 = .ok (.iload_n 2, 1) := by decide +kernel
theorem dX7_inState_46 : decode cX7_inState 46 = .ok (.ireturn, 1) := by decide +kernel
theorem dX7_size_0 : decode cX7_size 0 = .ok (.iconst 0, 1) := by decide +kernel
theorem dX7_size_1 : decode cX7_size 1 = .ok (.istore_n 1, 1) := by decide +kernel
theorem dX7_size_2 : decode cX7_size 2 = .ok (.iload_n 0, 1) := by decide +kernel
theorem dX7_size_3 : decode cX7_size 3 = .ok (.istore_n 2, 1) := by decide +kernel
theorem dX7_size_4 : decode cX7_size 4 = .ok (.iload_n 2, 1) := by decide +kernel
theorem dX7_size_5 : decode cX7_size 5 = .ok (.ifCond .le 16, 3) := by decide +kernel
theorem dX7_size_8 : decode cX7_size 8 = .ok (.iload_n 1, 1) := by decide +kernel
theorem dX7_size_9 : decode cX7_size 9 = .ok (.iload_n 2, 1) := by decide +kernel
theorem dX7_size_10 : decode cX7_size 10 = .ok (.iconst 2, 1) := by decide +kernel
theorem dX7_size_11 : decode cX7_size 11 = .ok (.irem, 1) := by decide +kernel
theorem dX7_size_12 : decode cX7_size 12 = .ok (.iadd, 1) := by decide +kernel
theorem dX7_size_13 : decode cX7_size 13 = .ok (.istore_n 1, 1) := by decide +kernel
theorem dX7_size_14 : decode cX7_size 14 = .ok (.iload_n 2, 1) := by decide +kernel
theorem dX7_size_15 : decode cX7_size 15 = .ok (.iconst 2, 1) := by decide +kernel
theorem dX7_size_16 : decode cX7_size 16 = .ok (.idiv, 1) := by decide +kernel
theorem dX7_size_17 : decode cX7_size 17 = .ok (.istore_n 2, 1) := by decide +kernel
theorem dX7_size_18 : decode cX7_size 18 = .ok (.goto (-14), 3) := by decide +kernel
theorem dX7_size_21 : decode cX7_size 21 = .ok (.iload_n 1, 1) := by decide +kernel
theorem dX7_size_22 : decode cX7_size 22 = .ok (.ireturn, 1) := by decide +kernel
theorem dX7_areWishes_0 : decode cX7_areWishes 0 = .ok (.aload_n 0, 1) := by decide +kernel
theorem dX7_areWishes_1 : decode cX7_areWishes 1 = .ok (.iload_n 1, 1) := by decide +kernel
theorem dX7_areWishes_2 : decode cX7_areWishes 2 = .ok (.invokevirtual 103, 3) := by decide +kernel
theorem dX7_areWishes_5 : decode cX7_areWishes 5 = .ok (.ifCond .eq 48, 3) := by decide +kernel
theorem dX7_areWishes_8 : decode cX7_areWishes 8 = .ok (.iload_n 2, 1) := by decide +kernel
theorem dX7_areWishes_9 : decode cX7_areWishes 9 = .ok (.iconst (-1), 1) := by decide +kernel
theorem dX7_areWishes_10 : decode cX7_areWishes 10 = .ok (.if_icmp .eq 16, 3) := by decide +kernel
theorem dX7_areWishes_13 : decode cX7_areWishes 13 = .ok (.aload_n 0, 1) := by decide +kernel
theorem dX7_areWishes_14 : decode cX7_areWishes 14 = .ok (.iload_n 2, 1) := by decide +kernel
theorem dX7_areWishes_15 : decode cX7_areWishes 15 = .ok (.invokevirtual 103, 3) := by decide +kernel
theorem dX7_areWishes_18 : decode cX7_areWishes 18 = .ok (.ifCond .eq 35, 3) := by decide +kernel
theorem dX7_areWishes_21 : decode cX7_areWishes 21 = .ok (.iload_n 2, 1) := by decide +kernel
theorem dX7_areWishes_22 : decode cX7_areWishes 22 = .ok (.iload_n 1, 1) := by decide +kernel
theorem dX7_areWishes_23 : decode cX7_areWishes 23 = .ok (.if_icmp .eq 30, 3) := by decide +kernel
theorem dX7_areWishes_26 : decode cX7_areWishes 26 = .ok (.iload_n 3, 1) := by decide +kernel
theorem dX7_areWishes_27 : decode cX7_areWishes 27 = .ok (.iconst (-1), 1) := by decide +kernel
theorem dX7_areWishes_28 : decode cX7_areWishes 28 = .ok (.if_icmp .eq 21, 3) := by decide +kernel
theorem dX7_areWishes_31 : decode cX7_areWishes 31 = .ok (.aload_n 0, 1) := by decide +kernel
theorem dX7_areWishes_32 : decode cX7_areWishes 32 = .ok (.iload_n 3, 1) := by decide +kernel
theorem dX7_areWishes_33 : decode cX7_areWishes 33 = .ok (.invokevirtual 103, 3) := by decide +kernel
theorem dX7_areWishes_36 : decode cX7_areWishes 36 = .ok (.ifCond .eq 17, 3) := by decide +kernel
theorem dX7_areWishes_39 : decode cX7_areWishes 39 = .ok (.iload_n 3, 1) := by decide +kernel
theorem dX7_areWishes_40 : decode cX7_areWishes 40 = .ok (.iload_n 1, 1) := by decide +kernel
theorem dX7_areWishes_41 : decode cX7_areWishes 41 = .ok (.if_icmp .eq 12, 3) := by decide +kernel
theorem dX7_areWishes_44 : decode cX7_areWishes 44 = .ok (.iload_n 3, 1) := by decide +kernel
theorem dX7_areWishes_45 : decode cX7_areWishes 45 = .ok (.iload_n 2, 1) := by decide +kernel
theorem dX7_areWishes_46 : decode cX7_areWishes 46 = .ok (.if_icmp .eq 7, 3) := by decide +kernel
theorem dX7_areWishes_49 : decode cX7_areWishes 49 = .ok (.iconst 1, 1) := by decide +kernel
theorem dX7_areWishes_50 : decode cX7_areWishes 50 = .ok (.goto 4, 3) := by decide +kernel
theorem dX7_areWishes_53 : decode cX7_areWishes 53 = .ok (.iconst 0, 1) := by decide +kernel
theorem dX7_areWishes_54 : decode cX7_areWishes 54 = .ok (.istore 4, 2) := by decide +kernel
theorem dX7_areWishes_56 : decode cX7_areWishes 56 = .ok (.iload 4, 2) := by decide +kernel
theorem dX7_areWishes_58 : decode cX7_areWishes 58 = .ok (.ifCond .eq 17, 3) := by decide +kernel
theorem dX7_areWishes_61 : decode cX7_areWishes 61 = .ok (.iload_n 3, 1) := by decide +kernel
theorem dX7_areWishes_62 : decode cX7_areWishes 62 = .ok (.iconst (-1), 1) := by decide +kernel
theorem dX7_areWishes_63 : decode cX7_areWishes 63 = .ok (.if_icmp .eq 8, 3) := by decide +kernel
theorem dX7_areWishes_66 : decode cX7_areWishes 66 = .ok (.iload_n 2, 1) := by decide +kernel
theorem dX7_areWishes_67 : decode cX7_areWishes 67 = .ok (.iconst (-1), 1) := by decide +kernel
theorem dX7_areWishes_68 : decode cX7_areWishes 68 = .ok (.if_icmp .eq 7, 3) := by decide +kernel
theorem dX7_areWishes_71 : decode cX7_areWishes 71 = .ok (.iconst 1, 1) := by decide +kernel
theorem dX7_areWishes_72 : decode cX7_areWishes 72 = .ok (.goto 4, 3) := by decide +kernel
theorem dX7_areWishes_75 : decode cX7_areWishes 75 = .ok (.iconst 0, 1) := by decide +kernel
theorem dX7_areWishes_76 : decode cX7_areWishes 76 = .ok (.ireturn, 1) := by decide +kernel
theorem dX7_wishes_0 : decode cX7_wishes 0 = .ok (.aload_n 0, 1) := by decide +kernel
theorem dX7_wishes_1 : decode cX7_wishes 1 = .ok (.getfield 7, 3) := by decide +kernel
theorem dX7_wishes_4 : decode cX7_wishes 4 = .ok (.iload_n 1, 1) := by decide +kernel
theorem dX7_wishes_5 : decode cX7_wishes 5 = .ok (.iconst 1, 1) := by decide +kernel
theorem dX7_wishes_6 : decode cX7_wishes 6 = .ok (.invokestatic 36, 3) := by decide +kernel
theorem dX7_wishes_9 : decode cX7_wishes 9 = .ok (.iload_n 2, 1) := by decide +kernel
theorem dX7_wishes_10 : decode cX7_wishes 10 = .ok (.iastore, 1) := by decide +kernel
theorem dX7_wishes_11 : decode cX7_wishes 11 = .ok (.aload_n 0, 1) := by decide +kernel
theorem dX7_wishes_12 : decode cX7_wishes 12 = .ok (.getfield 7, 3) := by decide +kernel
theorem dX7_wishes_15 : decode cX7_wishes 15 = .ok (.iload_n 1, 1) := by decide +kernel
theorem dX7_wishes_16 : decode cX7_wishes 16 = .ok (.iconst 2, 1) := by decide +kernel
theorem dX7_wishes_17 : decode cX7_wishes 17 = .ok (.invokestatic 36, 3) := by decide +kernel
theorem dX7_wishes_20 : decode cX7_wishes 20 = .ok (.iload_n 3, 1) := by decide +kernel
theorem dX7_wishes_21 : decode cX7_wishes 21 = .ok (.iastore, 1) := by decide +kernel
theorem dX7_wishes_22 : decode cX7_wishes 22 = .ok (.aload_n 0, 1) := by decide +kernel
theorem dX7_wishes_23 : decode cX7_wishes 23 = .ok (.getfield 7, 3) := by decide +kernel
theorem dX7_wishes_26 : decode cX7_wishes 26 = .ok (.iload_n 1, 1) := by decide +kernel
theorem dX7_wishes_27 : decode cX7_wishes 27 = .ok (.iconst 3, 1) := by decide +kernel
theorem dX7_wishes_28 : decode cX7_wishes 28 = .ok (.invokestatic 36, 3) := by decide +kernel
theorem dX7_wishes_31 : decode cX7_wishes 31 = .ok (.iload 4, 2) := by decide +kernel
theorem dX7_wishes_33 : decode cX7_wishes 33 = .ok (.iastore, 1) := by decide +kernel
theorem dX7_wishes_34 : decode cX7_wishes 34 = .ok (.return_, 1) := by decide +kernel
theorem dX7_comes_0 : decode cX7_comes 0 = .ok (.aload_n 0, 1) := by decide +kernel
theorem dX7_comes_1 : decode cX7_comes 1 = .ok (.iload_n 1, 1) := by decide +kernel
theorem dX7_comes_2 : decode cX7_comes 2 = .ok (.iload_n 2, 1) := by decide +kernel
theorem dX7_comes_3 : decode cX7_comes 3 = .ok (.iload_n 3, 1) := by decide +kernel
theorem dX7_comes_4 : decode cX7_comes 4 = .ok (.invokevirtual 106, 3) := by decide +kernel
theorem dX7_comes_7 : decode cX7_comes 7 = .ok (.ifCond .ne 6, 3) := by decide +kernel
theorem dX7_comes_10 : decode cX7_comes 10 = .ok (.ldc 109, 2) := by decide +kernel
theorem dX7_comes_12 : decode cX7_comes 12 = .ok (.ireturn, 1) := by decide +kernel
theorem dX7_comes_13 : decode cX7_comes 13 = .ok (.aload_n 0, 1) := by decide +kernel
theorem dX7_comes_14 : decode cX7_comes 14 = .ok (.getfield 7, 3) := by decide +kernel
theorem dX7_comes_17 : decode cX7_comes 17 = .ok (.sipush 547, 3) := by decide +kernel
theorem dX7_comes_20 : decode cX7_comes 20 = .ok (.iaload, 1) := by decide +kernel
theorem dX7_comes_21 : decode cX7_comes 21 = .ok (.iconst 1, 1) := by decide +kernel
theorem dX7_comes_22 : decode cX7_comes 22 = .ok (.if_icmp .ne 6, 3) := by decide +kernel
theorem dX7_comes_25 : decode cX7_comes 25 = .ok (.ldc 110, 2) := by decide +kernel
theorem dX7_comes_27 : decode cX7_comes 27 = .ok (.ireturn, 1) := by decide +kernel
theorem dX7_comes_28 : decode cX7_comes 28 = .ok (.aload_n 0, 1) := by decide +kernel
theorem dX7_comes_29 : decode cX7_comes 29 = .ok (.getfield 7, 3) := by decide +kernel
theorem dX7_comes_32 : decode cX7_comes 32 = .ok (.sipush 335, 3) := by decide +kernel
theorem dX7_comes_35 : decode cX7_comes 35 = .ok (.iaload, 1) := by decide +kernel
theorem dX7_comes_36 : decode cX7_comes 36 = .ok (.bipush 30, 2) := by decide +kernel
theorem dX7_comes_38 : decode cX7_comes 38 = .ok (.if_icmp .ne 6, 3) := by decide +kernel
theorem dX7_comes_41 : decode cX7_comes 41 = .ok (.ldc 111, 2) := by decide +kernel
theorem dX7_comes_43 : decode cX7_comes 43 = .ok (.ireturn, 1) := by decide +kernel
theorem dX7_comes_44 : decode cX7_comes 44 = .ok (.aload_n 0, 1) := by decide +kernel
theorem dX7_comes_45 : decode cX7_comes 45 = .ok (.getfield 7, 3) := by decide +kernel
theorem dX7_comes_48 : decode cX7_comes 48 = .ok (.sipush 335, 3) := by decide +kernel
theorem dX7_comes_51 : decode cX7_comes 51 = .ok (.iaload, 1) := by decide +kernel
theorem dX7_comes_52 : decode cX7_comes 52 = .ok (.istore 4, 2) := by decide +kernel
theorem dX7_comes_54 : decode cX7_comes 54 = .ok (.aload_n 0, 1) := by decide +kernel
theorem dX7_comes_55 : decode cX7_comes 55 = .ok (.getfield 7, 3) := by decide +kernel
theorem dX7_comes_58 : decode cX7_comes 58 = .ok (.sipush 335, 3) := by decide +kernel
theorem dX7_comes_61 : decode cX7_comes 61 = .ok (.dup2, 1) := by decide +kernel
theorem dX7_comes_62 : decode cX7_comes 62 = .ok (.iaload, 1) := by decide +kernel
theorem dX7_comes_63 : decode cX7_comes 63 = .ok (.iconst 1, 1) := by decide +kernel
theorem dX7_comes_64 : decode cX7_comes 64 = .ok (.iadd, 1) := by decide +kernel
theorem dX7_comes_65 : decode cX7_comes 65 = .ok (.iastore, 1) := by decide +kernel
theorem dX7_comes_66 : decode cX7_comes 66 = .ok (.aload_n 0, 1) := by decide +kernel
theorem dX7_comes_67 : decode cX7_comes 67 = .ok (.getfield 7, 3) := by decide +kernel
theorem dX7_comes_70 : decode cX7_comes 70 = .ok (.iload 4, 2) := by decide +kernel
theorem dX7_comes_72 : decode cX7_comes 72 = .ok (.iconst 0, 1) := by decide +kernel
theorem dX7_comes_73 : decode cX7_comes 73 = .ok (.invokestatic 36, 3) := by decide +kernel
theorem dX7_comes_76 : decode cX7_comes 76 = .ok (.iconst 1, 1) := by decide +kernel
theorem dX7_comes_77 : decode cX7_comes 77 = .ok (.iastore, 1) := by decide +kernel
theorem dX7_comes_78 : decode cX7_comes 78 = .ok (.aload_n 0, 1) := by decide +kernel
theorem dX7_comes_79 : decode cX7_comes 79 = .ok (.iload 4, 2) := by decide +kernel
theorem dX7_comes_81 : decode cX7_comes 81 = .ok (.iload_n 1, 1) := by decide +kernel
theorem dX7_comes_82 : decode cX7_comes 82 = .ok (.iload_n 2, 1) := by decide +kernel
theorem dX7_comes_83 : decode cX7_comes 83 = .ok (.iload_n 3, 1) := by decide +kernel
theorem dX7_comes_84 : decode cX7_comes 84 = .ok (.invokevirtual 112, 3) := by decide +kernel
theorem dX7_comes_87 : decode cX7_comes 87 = .ok (.aload_n 0, 1) := by decide +kernel
theorem dX7_comes_88 : decode cX7_comes 88 = .ok (.getfield 7, 3) := by decide +kernel
theorem dX7_comes_91 : decode cX7_comes 91 = .ok (.iload 4, 2) := by decide +kernel
theorem dX7_comes_93 : decode cX7_comes 93 = .ok (.iconst 4, 1) := by decide +kernel
theorem dX7_comes_94 : decode cX7_comes 94 = .ok (.invokestatic 36, 3) := by decide +kernel
theorem dX7_comes_97 : decode cX7_comes 97 = .ok (.iconst (-1), 1) := by decide +kernel
theorem dX7_comes_98 : decode cX7_comes 98 = .ok (.iastore, 1) := by decide +kernel
theorem dX7_comes_99 : decode cX7_comes 99 = .ok (.aload_n 0, 1) := by decide +kernel
theorem dX7_comes_100 : decode cX7_comes 100 = .ok (.getfield 7, 3) := by decide +kernel
theorem dX7_comes_103 : decode cX7_comes 103 = .ok (.iload 4, 2) := by decide +kernel
theorem dX7_comes_105 : decode cX7_comes 105 = .ok (.iconst 5, 1) := by decide +kernel
theorem dX7_comes_106 : decode cX7_comes 106 = .ok (.invokestatic 36, 3) := by decide +kernel
theorem dX7_comes_109 : decode cX7_comes 109 = .ok (.iconst 0, 1) := by decide +kernel
theorem dX7_comes_110 : decode cX7_comes 110 = .ok (.iastore, 1) := by decide +kernel
theorem dX7_comes_111 : decode cX7_comes 111 = .ok (.aload_n 0, 1) := by decide +kernel
theorem dX7_comes_112 : decode cX7_comes 112 = .ok (.getfield 7, 3) := by decide +kernel
theorem dX7_comes_115 : decode cX7_comes 115 = .ok (.iload 4, 2) := by decide +kernel
theorem dX7_comes_117 : decode cX7_comes 117 = .ok (.bipush 6, 2) := by decide +kernel
theorem dX7_comes_119 : decode cX7_comes 119 = .ok (.invokestatic 36, 3) := by decide +kernel
theorem dX7_comes_122 : decode cX7_comes 122 = .ok (.iconst 0, 1) := by decide +kernel
theorem dX7_comes_123 : decode cX7_comes 123 = .ok (.iastore, 1) := by decide +kernel
theorem dX7_comes_124 : decode cX7_comes 124 = .ok (.aload_n 0, 1) := by decide +kernel
theorem dX7_comes_125 : decode cX7_comes 125 = .ok (.invokevirtual 94, 3) := by decide +kernel
theorem dX7_comes_128 : decode cX7_comes 128 = .ok (.iload 4, 2) := by decide +kernel
theorem dX7_comes_130 : decode cX7_comes 130 = .ok (.ireturn, 1) := by decide +kernel
theorem dX7_changesWishes_0 : decode cX7_changesWishes 0 = .ok (.aload_n 0, 1) := by decide +kernel
theorem dX7_changesWishes_1 : decode cX7_changesWishes 1 = .ok (.iload_n 1, 1) := by decide +kernel
theorem dX7_changesWishes_2 : decode cX7_changesWishes 2 = .ok (.invokevirtual 116, 3) := by decide +kernel
theorem dX7_changesWishes_5 : decode cX7_changesWishes 5 = .ok (.ifCond .eq 14, 3) := by decide +kernel
theorem dX7_changesWishes_8 : decode cX7_changesWishes 8 = .ok (.aload_n 0, 1) := by decide +kernel
theorem dX7_changesWishes_9 : decode cX7_changesWishes 9 = .ok (.iload_n 2, 1) := by decide +kernel
theorem dX7_changesWishes_10 : decode cX7_changesWishes 10 = .ok (.iload_n 3, 1) := by decide +kernel
theorem dX7_changesWishes_11 : decode cX7_changesWishes 11 = .ok (.iload 4, 2) := by decide +kernel
theorem dX7_changesWishes_13 : decode cX7_changesWishes 13 = .ok (.invokevirtual 106, 3) := by decide +kernel
theorem dX7_changesWishes_16 : decode cX7_changesWishes 16 = .ok (.ifCond .ne 6, 3) := by decide +kernel
theorem dX7_changesWishes_19 : decode cX7_changesWishes 19 = .ok (.ldc 109, 2) := by decide +kernel
theorem dX7_changesWishes_21 : decode cX7_changesWishes 21 = .ok (.ireturn, 1) := by decide +kernel
theorem dX7_changesWishes_22 : decode cX7_changesWishes 22 = .ok (.aload_n 0, 1) := by decide +kernel
theorem dX7_changesWishes_23 : decode cX7_changesWishes 23 = .ok (.getfield 7, 3) := by decide +kernel
theorem dX7_changesWishes_26 : decode cX7_changesWishes 26 = .ok (.sipush 547, 3) := by decide +kernel
theorem dX7_changesWishes_29 : decode cX7_changesWishes 29 = .ok (.iaload, 1) := by decide +kernel
theorem dX7_changesWishes_30 : decode cX7_changesWishes 30 = .ok (.iconst 1, 1) := by decide +kernel
theorem dX7_changesWishes_31 : decode cX7_changesWishes 31 = .ok (.if_icmp .eq 11, 3) := by decide +kernel
theorem dX7_changesWishes_34 : decode cX7_changesWishes 34 = .ok (.aload_n 0, 1) := by decide +kernel
theorem dX7_changesWishes_35 : decode cX7_changesWishes 35 = .ok (.iload_n 1, 1) := by decide +kernel
theorem dX7_changesWishes_36 : decode cX7_changesWishes 36 = .ok (.invokevirtual 54, 3) := by decide +kernel
theorem dX7_changesWishes_39 : decode cX7_changesWishes 39 = .ok (.ifCond .ne 6, 3) := by decide +kernel
theorem dX7_changesWishes_42 : decode cX7_changesWishes 42 = .ok (.ldc 110, 2) := by decide +kernel
theorem dX7_changesWishes_44 : decode cX7_changesWishes 44 = .ok (.ireturn, 1) := by decide +kernel
theorem dX7_changesWishes_45 : decode cX7_changesWishes 45 = .ok (.aload_n 0, 1) := by decide +kernel
theorem dX7_changesWishes_46 : decode cX7_changesWishes 46 = .ok (.iload_n 1, 1) := by decide +kernel
theorem dX7_changesWishes_47 : decode cX7_changesWishes 47 = .ok (.iload_n 2, 1) := by decide +kernel
theorem dX7_changesWishes_48 : decode cX7_changesWishes 48 = .ok (.iload_n 3, 1) := by decide +kernel
theorem dX7_changesWishes_49 : decode cX7_changesWishes 49 = .ok (.iload 4, 2) := by decide +kernel
theorem dX7_changesWishes_51 : decode cX7_changesWishes 51 = .ok (.invokevirtual 112, 3) := by decide +kernel
theorem dX7_changesWishes_54 : decode cX7_changesWishes 54 = .ok (.aload_n 0, 1) := by decide +kernel
theorem dX7_changesWishes_55 : decode cX7_changesWishes 55 = .ok (.invokevirtual 94, 3) := by decide +kernel
theorem dX7_changesWishes_58 : decode cX7_changesWishes 58 = .ok (.aload_n 0, 1) := by decide +kernel
theorem dX7_changesWishes_59 : decode cX7_changesWishes 59 = .ok (.iload_n 1, 1) := by decide +kernel
theorem dX7_changesWishes_60 : decode cX7_changesWishes 60 = .ok (.invokevirtual 57, 3) := by decide +kernel
theorem dX7_changesWishes_63 : decode cX7_changesWishes 63 = .ok (.ireturn, 1) := by decide +kernel
theorem dX7_leaves_0 : decode cX7_leaves 0 = .ok (.aload_n 0, 1) := by decide +kernel
theorem dX7_leaves_1 : decode cX7_leaves 1 = .ok (.iload_n 1, 1) := by decide +kernel
theorem dX7_leaves_2 : decode cX7_leaves 2 = .ok (.invokevirtual 116, 3) := by decide +kernel
theorem dX7_leaves_5 : decode cX7_leaves 5 = .ok (.ifCond .ne 6, 3) := by decide +kernel
theorem dX7_leaves_8 : decode cX7_leaves 8 = .ok (.ldc 109, 2) := by decide +kernel
theorem dX7_leaves_10 : decode cX7_leaves 10 = .ok (.ireturn, 1) := by decide +kernel
theorem dX7_leaves_11 : decode cX7_leaves 11 = .ok (.aload_n 0, 1) := by decide +kernel
theorem dX7_leaves_12 : decode cX7_leaves 12 = .ok (.getfield 7, 3) := by decide +kernel
theorem dX7_leaves_15 : decode cX7_leaves 15 = .ok (.sipush 547, 3) := by decide +kernel
theorem dX7_leaves_18 : decode cX7_leaves 18 = .ok (.iaload, 1) := by decide +kernel
theorem dX7_leaves_19 : decode cX7_leaves 19 = .ok (.iconst 1, 1) := by decide +kernel
theorem dX7_leaves_20 : decode cX7_leaves 20 = .ok (.if_icmp .eq 11, 3) := by decide +kernel
theorem dX7_leaves_23 : decode cX7_leaves 23 = .ok (.aload_n 0, 1) := by decide +kernel
theorem dX7_leaves_24 : decode cX7_leaves 24 = .ok (.iload_n 1, 1) := by decide +kernel
theorem dX7_leaves_25 : decode cX7_leaves 25 = .ok (.invokevirtual 54, 3) := by decide +kernel
theorem dX7_leaves_28 : decode cX7_leaves 28 = .ok (.ifCond .ne 6, 3) := by decide +kernel
theorem dX7_leaves_31 : decode cX7_leaves 31 = .ok (.ldc 110, 2) := by decide +kernel
theorem dX7_leaves_33 : decode cX7_leaves 33 = .ok (.ireturn, 1) := by decide +kernel
theorem dX7_leaves_34 : decode cX7_leaves 34 = .ok (.aload_n 0, 1) := by decide +kernel
theorem dX7_leaves_35 : decode cX7_leaves 35 = .ok (.getfield 7, 3) := by decide +kernel
theorem dX7_leaves_38 : decode cX7_leaves 38 = .ok (.iload_n 1, 1) := by decide +kernel
theorem dX7_leaves_39 : decode cX7_leaves 39 = .ok (.iconst 5, 1) := by decide +kernel
theorem dX7_leaves_40 : decode cX7_leaves 40 = .ok (.invokestatic 36, 3) := by decide +kernel
theorem dX7_leaves_43 : decode cX7_leaves 43 = .ok (.iaload, 1) := by decide +kernel
theorem dX7_leaves_44 : decode cX7_leaves 44 = .ok (.istore_n 2, 1) := by decide +kernel
theorem dX7_leaves_45 : decode cX7_leaves 45 = .ok (.aload_n 0, 1) := by decide +kernel
theorem dX7_leaves_46 : decode cX7_leaves 46 = .ok (.iload_n 1, 1) := by decide +kernel
theorem dX7_leaves_47 : decode cX7_leaves 47 = .ok (.invokevirtual 66, 3) := by decide +kernel
theorem dX7_leaves_50 : decode cX7_leaves 50 = .ok (.aload_n 0, 1) := by decide +kernel
theorem dX7_leaves_51 : decode cX7_leaves 51 = .ok (.getfield 7, 3) := by decide +kernel
theorem dX7_leaves_54 : decode cX7_leaves 54 = .ok (.iload_n 1, 1) := by decide +kernel
theorem dX7_leaves_55 : decode cX7_leaves 55 = .ok (.iconst 0, 1) := by decide +kernel
theorem dX7_leaves_56 : decode cX7_leaves 56 = .ok (.invokestatic 36, 3) := by decide +kernel
theorem dX7_leaves_59 : decode cX7_leaves 59 = .ok (.iconst 0, 1) := by decide +kernel
theorem dX7_leaves_60 : decode cX7_leaves 60 = .ok (.iastore, 1) := by decide +kernel
theorem dX7_leaves_61 : decode cX7_leaves 61 = .ok (.aload_n 0, 1) := by decide +kernel
theorem dX7_leaves_62 : decode cX7_leaves 62 = .ok (.invokevirtual 94, 3) := by decide +kernel
theorem dX7_leaves_65 : decode cX7_leaves 65 = .ok (.iload_n 2, 1) := by decide +kernel
theorem dX7_leaves_66 : decode cX7_leaves 66 = .ok (.ireturn, 1) := by decide +kernel
theorem dX7_closesTerm_0 : decode cX7_closesTerm 0 = .ok (.aload_n 0, 1) := by decide +kernel
theorem dX7_closesTerm_1 : decode cX7_closesTerm 1 = .ok (.getfield 7, 3) := by decide +kernel
theorem dX7_closesTerm_4 : decode cX7_closesTerm 4 = .ok (.sipush 547, 3) := by decide +kernel
theorem dX7_closesTerm_7 : decode cX7_closesTerm 7 = .ok (.iaload, 1) := by decide +kernel
theorem dX7_closesTerm_8 : decode cX7_closesTerm 8 = .ok (.iconst 1, 1) := by decide +kernel
theorem dX7_closesTerm_9 : decode cX7_closesTerm 9 = .ok (.if_icmp .ne 6, 3) := by decide +kernel
theorem dX7_closesTerm_12 : decode cX7_closesTerm 12 = .ok (.ldc 110, 2) := by decide +kernel
theorem dX7_closesTerm_14 : decode cX7_closesTerm 14 = .ok (.ireturn, 1) := by decide +kernel
theorem dX7_closesTerm_15 : decode cX7_closesTerm 15 = .ok (.aload_n 0, 1) := by decide +kernel
theorem dX7_closesTerm_16 : decode cX7_closesTerm 16 = .ok (.invokevirtual 119, 3) := by decide +kernel
theorem dX7_closesTerm_19 : decode cX7_closesTerm 19 = .ok (.aload_n 0, 1) := by decide +kernel
theorem dX7_closesTerm_20 : decode cX7_closesTerm 20 = .ok (.iconst 1, 1) := by decide +kernel
theorem dX7_closesTerm_21 : decode cX7_closesTerm 21 = .ok (.invokevirtual 122, 3) := by decide +kernel
theorem dX7_closesTerm_24 : decode cX7_closesTerm 24 = .ok (.invokestatic 125, 3) := by decide +kernel
theorem dX7_closesTerm_27 : decode cX7_closesTerm 27 = .ok (.ireturn, 1) := by decide +kernel
theorem dX7_paidNow_0 : decode cX7_paidNow 0 = .ok (.iconst 0, 1) := by decide +kernel
theorem dX7_paidNow_1 : decode cX7_paidNow 1 = .ok (.istore_n 1, 1) := by decide +kernel
theorem dX7_paidNow_2 : decode cX7_paidNow 2 = .ok (.iconst 0, 1) := by decide +kernel
theorem dX7_paidNow_3 : decode cX7_paidNow 3 = .ok (.istore_n 2, 1) := by decide +kernel
theorem dX7_paidNow_4 : decode cX7_paidNow 4 = .ok (.iload_n 2, 1) := by decide +kernel
theorem dX7_paidNow_5 : decode cX7_paidNow 5 = .ok (.aload_n 0, 1) := by decide +kernel
theorem dX7_paidNow_6 : decode cX7_paidNow 6 = .ok (.getfield 7, 3) := by decide +kernel
theorem dX7_paidNow_9 : decode cX7_paidNow 9 = .ok (.sipush 335, 3) := by decide +kernel
theorem dX7_paidNow_12 : decode cX7_paidNow 12 = .ok (.iaload, 1) := by decide +kernel
theorem dX7_paidNow_13 : decode cX7_paidNow 13 = .ok (.if_icmp .ge 22, 3) := by decide +kernel
theorem dX7_paidNow_16 : decode cX7_paidNow 16 = .ok (.iload_n 1, 1) := by decide +kernel
theorem dX7_paidNow_17 : decode cX7_paidNow 17 = .ok (.aload_n 0, 1) := by decide +kernel
theorem dX7_paidNow_18 : decode cX7_paidNow 18 = .ok (.getfield 7, 3) := by decide +kernel
theorem dX7_paidNow_21 : decode cX7_paidNow 21 = .ok (.iload_n 2, 1) := by decide +kernel
theorem dX7_paidNow_22 : decode cX7_paidNow 22 = .ok (.iconst 5, 1) := by decide +kernel
theorem dX7_paidNow_23 : decode cX7_paidNow 23 = .ok (.invokestatic 36, 3) := by decide +kernel
theorem dX7_paidNow_26 : decode cX7_paidNow 26 = .ok (.iaload, 1) := by decide +kernel
theorem dX7_paidNow_27 : decode cX7_paidNow 27 = .ok (.iadd, 1) := by decide +kernel
theorem dX7_paidNow_28 : decode cX7_paidNow 28 = .ok (.istore_n 1, 1) := by decide +kernel
theorem dX7_paidNow_29 : decode cX7_paidNow 29 = .ok (.iinc 2 1, 3) := by decide +kernel
theorem dX7_paidNow_32 : decode cX7_paidNow 32 = .ok (.goto (-28), 3) := by decide +kernel
theorem dX7_paidNow_35 : decode cX7_paidNow 35 = .ok (.iload_n 1, 1) := by decide +kernel
theorem dX7_paidNow_36 : decode cX7_paidNow 36 = .ok (.ireturn, 1) := by decide +kernel
theorem dX7_beginsTerm_0 : decode cX7_beginsTerm 0 = .ok (.aload_n 0, 1) := by decide +kernel
theorem dX7_beginsTerm_1 : decode cX7_beginsTerm 1 = .ok (.getfield 7, 3) := by decide +kernel
theorem dX7_beginsTerm_4 : decode cX7_beginsTerm 4 = .ok (.sipush 547, 3) := by decide +kernel
theorem dX7_beginsTerm_7 : decode cX7_beginsTerm 7 = .ok (.iaload, 1) := by decide +kernel
theorem dX7_beginsTerm_8 : decode cX7_beginsTerm 8 = .ok (.ifCond .ne 6, 3) := by decide +kernel
theorem dX7_beginsTerm_11 : decode cX7_beginsTerm 11 = .ok (.ldc 110, 2) := by decide +kernel
theorem dX7_beginsTerm_13 : decode cX7_beginsTerm 13 = .ok (.ireturn, 1) := by decide +kernel
theorem dX7_beginsTerm_14 : decode cX7_beginsTerm 14 = .ok (.aload_n 0, 1) := by decide +kernel
theorem dX7_beginsTerm_15 : decode cX7_beginsTerm 15 = .ok (.getfield 7, 3) := by decide +kernel
theorem dX7_beginsTerm_18 : decode cX7_beginsTerm 18 = .ok (.sipush 550, 3) := by decide +kernel
theorem dX7_beginsTerm_21 : decode cX7_beginsTerm 21 = .ok (.dup2, 1) := by decide +kernel
theorem dX7_beginsTerm_22 : decode cX7_beginsTerm 22 = .ok (.iaload, 1) := by decide +kernel
theorem dX7_beginsTerm_23 : decode cX7_beginsTerm 23 = .ok (.aload_n 0, 1) := by decide +kernel
theorem dX7_beginsTerm_24 : decode cX7_beginsTerm 24 = .ok (.invokevirtual 128, 3) := by decide +kernel
theorem dX7_beginsTerm_27 : decode cX7_beginsTerm 27 = .ok (.iadd, 1) := by decide +kernel
theorem dX7_beginsTerm_28 : decode cX7_beginsTerm 28 = .ok (.iastore, 1) := by decide +kernel
theorem dX7_beginsTerm_29 : decode cX7_beginsTerm 29 = .ok (.iconst 0, 1) := by decide +kernel
theorem dX7_beginsTerm_30 : decode cX7_beginsTerm 30 = .ok (.istore_n 1, 1) := by decide +kernel
theorem dX7_beginsTerm_31 : decode cX7_beginsTerm 31 = .ok (.iload_n 1, 1) := by decide +kernel
theorem dX7_beginsTerm_32 : decode cX7_beginsTerm 32 = .ok (.aload_n 0, 1) := by decide +kernel
theorem dX7_beginsTerm_33 : decode cX7_beginsTerm 33 = .ok (.getfield 7, 3) := by decide +kernel
theorem dX7_beginsTerm_36 : decode cX7_beginsTerm 36 = .ok (.iconst 0, 1) := by decide +kernel
theorem dX7_beginsTerm_37 : decode cX7_beginsTerm 37 = .ok (.iaload, 1) := by decide +kernel
theorem dX7_beginsTerm_38 : decode cX7_beginsTerm 38 = .ok (.if_icmp .ge 69, 3) := by decide +kernel
theorem dX7_beginsTerm_41 : decode cX7_beginsTerm 41 = .ok (.aload_n 0, 1) := by decide +kernel
theorem dX7_beginsTerm_42 : decode cX7_beginsTerm 42 = .ok (.getfield 7, 3) := by decide +kernel
theorem dX7_beginsTerm_45 : decode cX7_beginsTerm 45 = .ok (.iload_n 1, 1) := by decide +kernel
theorem dX7_beginsTerm_46 : decode cX7_beginsTerm 46 = .ok (.bipush 6, 2) := by decide +kernel
theorem dX7_beginsTerm_48 : decode cX7_beginsTerm 48 = .ok (.invokestatic 40, 3) := by decide +kernel
theorem dX7_beginsTerm_51 : decode cX7_beginsTerm 51 = .ok (.iconst 0, 1) := by decide +kernel
theorem dX7_beginsTerm_52 : decode cX7_beginsTerm 52 = .ok (.iastore, 1) := by decide +kernel
theorem dX7_beginsTerm_53 : decode cX7_beginsTerm 53 = .ok (.aload_n 0, 1) := by decide +kernel
theorem dX7_beginsTerm_54 : decode cX7_beginsTerm 54 = .ok (.getfield 7, 3) := by decide +kernel
theorem dX7_beginsTerm_57 : decode cX7_beginsTerm 57 = .ok (.iload_n 1, 1) := by decide +kernel
theorem dX7_beginsTerm_58 : decode cX7_beginsTerm 58 = .ok (.bipush 7, 2) := by decide +kernel
theorem dX7_beginsTerm_60 : decode cX7_beginsTerm 60 = .ok (.invokestatic 40, 3) := by decide +kernel
theorem dX7_beginsTerm_63 : decode cX7_beginsTerm 63 = .ok (.iconst (-1), 1) := by decide +kernel
theorem dX7_beginsTerm_64 : decode cX7_beginsTerm 64 = .ok (.iastore, 1) := by decide +kernel
theorem dX7_beginsTerm_65 : decode cX7_beginsTerm 65 = .ok (.aload_n 0, 1) := by decide +kernel
theorem dX7_beginsTerm_66 : decode cX7_beginsTerm 66 = .ok (.getfield 7, 3) := by decide +kernel
theorem dX7_beginsTerm_69 : decode cX7_beginsTerm 69 = .ok (.iload_n 1, 1) := by decide +kernel
theorem dX7_beginsTerm_70 : decode cX7_beginsTerm 70 = .ok (.bipush 8, 2) := by decide +kernel
theorem dX7_beginsTerm_72 : decode cX7_beginsTerm 72 = .ok (.invokestatic 40, 3) := by decide +kernel
theorem dX7_beginsTerm_75 : decode cX7_beginsTerm 75 = .ok (.iconst (-1), 1) := by decide +kernel
theorem dX7_beginsTerm_76 : decode cX7_beginsTerm 76 = .ok (.iastore, 1) := by decide +kernel
theorem dX7_beginsTerm_77 : decode cX7_beginsTerm 77 = .ok (.aload_n 0, 1) := by decide +kernel
theorem dX7_beginsTerm_78 : decode cX7_beginsTerm 78 = .ok (.getfield 7, 3) := by decide +kernel
theorem dX7_beginsTerm_81 : decode cX7_beginsTerm 81 = .ok (.iload_n 1, 1) := by decide +kernel
theorem dX7_beginsTerm_82 : decode cX7_beginsTerm 82 = .ok (.bipush 9, 2) := by decide +kernel
theorem dX7_beginsTerm_84 : decode cX7_beginsTerm 84 = .ok (.invokestatic 40, 3) := by decide +kernel
theorem dX7_beginsTerm_87 : decode cX7_beginsTerm 87 = .ok (.iconst 0, 1) := by decide +kernel
theorem dX7_beginsTerm_88 : decode cX7_beginsTerm 88 = .ok (.iastore, 1) := by decide +kernel
theorem dX7_beginsTerm_89 : decode cX7_beginsTerm 89 = .ok (.aload_n 0, 1) := by decide +kernel
theorem dX7_beginsTerm_90 : decode cX7_beginsTerm 90 = .ok (.getfield 7, 3) := by decide +kernel
theorem dX7_beginsTerm_93 : decode cX7_beginsTerm 93 = .ok (.iload_n 1, 1) := by decide +kernel
theorem dX7_beginsTerm_94 : decode cX7_beginsTerm 94 = .ok (.bipush 10, 2) := by decide +kernel
theorem dX7_beginsTerm_96 : decode cX7_beginsTerm 96 = .ok (.invokestatic 40, 3) := by decide +kernel
theorem dX7_beginsTerm_99 : decode cX7_beginsTerm 99 = .ok (.iconst 0, 1) := by decide +kernel
theorem dX7_beginsTerm_100 : decode cX7_beginsTerm 100 = .ok (.iastore, 1) := by decide +kernel
theorem dX7_beginsTerm_101 : decode cX7_beginsTerm 101 = .ok (.iinc 1 1, 3) := by decide +kernel
theorem dX7_beginsTerm_104 : decode cX7_beginsTerm 104 = .ok (.goto (-73), 3) := by decide +kernel
theorem dX7_beginsTerm_107 : decode cX7_beginsTerm 107 = .ok (.aload_n 0, 1) := by decide +kernel
theorem dX7_beginsTerm_108 : decode cX7_beginsTerm 108 = .ok (.getfield 7, 3) := by decide +kernel
theorem dX7_beginsTerm_111 : decode cX7_beginsTerm 111 = .ok (.sipush 335, 3) := by decide +kernel
theorem dX7_beginsTerm_114 : decode cX7_beginsTerm 114 = .ok (.iconst 0, 1) := by decide +kernel
theorem dX7_beginsTerm_115 : decode cX7_beginsTerm 115 = .ok (.iastore, 1) := by decide +kernel
theorem dX7_beginsTerm_116 : decode cX7_beginsTerm 116 = .ok (.aload_n 0, 1) := by decide +kernel
theorem dX7_beginsTerm_117 : decode cX7_beginsTerm 117 = .ok (.getfield 7, 3) := by decide +kernel
theorem dX7_beginsTerm_120 : decode cX7_beginsTerm 120 = .ok (.sipush 547, 3) := by decide +kernel
theorem dX7_beginsTerm_123 : decode cX7_beginsTerm 123 = .ok (.iconst 0, 1) := by decide +kernel
theorem dX7_beginsTerm_124 : decode cX7_beginsTerm 124 = .ok (.iastore, 1) := by decide +kernel
theorem dX7_beginsTerm_125 : decode cX7_beginsTerm 125 = .ok (.aload_n 0, 1) := by decide +kernel
theorem dX7_beginsTerm_126 : decode cX7_beginsTerm 126 = .ok (.getfield 7, 3) := by decide +kernel
theorem dX7_beginsTerm_129 : decode cX7_beginsTerm 129 = .ok (.sipush 546, 3) := by decide +kernel
theorem dX7_beginsTerm_132 : decode cX7_beginsTerm 132 = .ok (.dup2, 1) := by decide +kernel
theorem dX7_beginsTerm_133 : decode cX7_beginsTerm 133 = .ok (.iaload, 1) := by decide +kernel
theorem dX7_beginsTerm_134 : decode cX7_beginsTerm 134 = .ok (.iconst 1, 1) := by decide +kernel
theorem dX7_beginsTerm_135 : decode cX7_beginsTerm 135 = .ok (.iadd, 1) := by decide +kernel
theorem dX7_beginsTerm_136 : decode cX7_beginsTerm 136 = .ok (.iastore, 1) := by decide +kernel
theorem dX7_beginsTerm_137 : decode cX7_beginsTerm 137 = .ok (.aload_n 0, 1) := by decide +kernel
theorem dX7_beginsTerm_138 : decode cX7_beginsTerm 138 = .ok (.getfield 7, 3) := by decide +kernel
theorem dX7_beginsTerm_141 : decode cX7_beginsTerm 141 = .ok (.sipush 546, 3) := by decide +kernel
theorem dX7_beginsTerm_144 : decode cX7_beginsTerm 144 = .ok (.iaload, 1) := by decide +kernel
theorem dX7_beginsTerm_145 : decode cX7_beginsTerm 145 = .ok (.ireturn, 1) := by decide +kernel
theorem dX7_course_0 : decode cX7_course 0 = .ok (.iload_n 1, 1) := by decide +kernel
theorem dX7_course_1 : decode cX7_course 1 = .ok (.iconst 0, 1) := by decide +kernel
theorem dX7_course_2 : decode cX7_course 2 = .ok (.bipush 79, 2) := by decide +kernel
theorem dX7_course_4 : decode cX7_course 4 = .ok (.invokestatic 32, 3) := by decide +kernel
theorem dX7_course_7 : decode cX7_course 7 = .ok (.ifCond .eq 34, 3) := by decide +kernel
theorem dX7_course_10 : decode cX7_course 10 = .ok (.iload_n 2, 1) := by decide +kernel
theorem dX7_course_11 : decode cX7_course 11 = .ok (.iconst 1, 1) := by decide +kernel
theorem dX7_course_12 : decode cX7_course 12 = .ok (.bipush 20, 2) := by decide +kernel
theorem dX7_course_14 : decode cX7_course 14 = .ok (.invokestatic 32, 3) := by decide +kernel
theorem dX7_course_17 : decode cX7_course 17 = .ok (.ifCond .eq 24, 3) := by decide +kernel
theorem dX7_course_20 : decode cX7_course 20 = .ok (.iload_n 3, 1) := by decide +kernel
theorem dX7_course_21 : decode cX7_course 21 = .ok (.iload_n 2, 1) := by decide +kernel
theorem dX7_course_22 : decode cX7_course 22 = .ok (.bipush 20, 2) := by decide +kernel
theorem dX7_course_24 : decode cX7_course 24 = .ok (.invokestatic 32, 3) := by decide +kernel
theorem dX7_course_27 : decode cX7_course 27 = .ok (.ifCond .eq 14, 3) := by decide +kernel
theorem dX7_course_30 : decode cX7_course 30 = .ok (.iload 4, 2) := by decide +kernel
theorem dX7_course_32 : decode cX7_course 32 = .ok (.iconst 0, 1) := by decide +kernel
theorem dX7_course_33 : decode cX7_course 33 = .ok (.bipush 99, 2) := by decide +kernel
theorem dX7_course_35 : decode cX7_course 35 = .ok (.invokestatic 32, 3) := by decide +kernel
theorem dX7_course_38 : decode cX7_course 38 = .ok (.ifCond .ne 6, 3) := by decide +kernel
theorem dX7_course_41 : decode cX7_course 41 = .ok (.ldc 109, 2) := by decide +kernel
theorem dX7_course_43 : decode cX7_course 43 = .ok (.ireturn, 1) := by decide +kernel
theorem dX7_course_44 : decode cX7_course 44 = .ok (.aload_n 0, 1) := by decide +kernel
theorem dX7_course_45 : decode cX7_course 45 = .ok (.getfield 7, 3) := by decide +kernel
theorem dX7_course_48 : decode cX7_course 48 = .ok (.sipush 547, 3) := by decide +kernel
theorem dX7_course_51 : decode cX7_course 51 = .ok (.iaload, 1) := by decide +kernel
theorem dX7_course_52 : decode cX7_course 52 = .ok (.iconst 1, 1) := by decide +kernel
theorem dX7_course_53 : decode cX7_course 53 = .ok (.if_icmp .ne 6, 3) := by decide +kernel
theorem dX7_course_56 : decode cX7_course 56 = .ok (.ldc 110, 2) := by decide +kernel
theorem dX7_course_58 : decode cX7_course 58 = .ok (.ireturn, 1) := by decide +kernel
theorem dX7_course_59 : decode cX7_course 59 = .ok (.aload_n 0, 1) := by decide +kernel
theorem dX7_course_60 : decode cX7_course 60 = .ok (.getfield 7, 3) := by decide +kernel
theorem dX7_course_63 : decode cX7_course 63 = .ok (.iconst 0, 1) := by decide +kernel
theorem dX7_course_64 : decode cX7_course 64 = .ok (.iaload, 1) := by decide +kernel
theorem dX7_course_65 : decode cX7_course 65 = .ok (.bipush 8, 2) := by decide +kernel
theorem dX7_course_67 : decode cX7_course 67 = .ok (.if_icmp .ne 6, 3) := by decide +kernel
theorem dX7_course_70 : decode cX7_course 70 = .ok (.ldc 111, 2) := by decide +kernel
theorem dX7_course_72 : decode cX7_course 72 = .ok (.ireturn, 1) := by decide +kernel
theorem dX7_course_73 : decode cX7_course 73 = .ok (.aload_n 0, 1) := by decide +kernel
theorem dX7_course_74 : decode cX7_course 74 = .ok (.invokevirtual 131, 3) := by decide +kernel
theorem dX7_course_77 : decode cX7_course 77 = .ok (.aload_n 0, 1) := by decide +kernel
theorem dX7_course_78 : decode cX7_course 78 = .ok (.getfield 7, 3) := by decide +kernel
theorem dX7_course_81 : decode cX7_course 81 = .ok (.iconst 0, 1) := by decide +kernel
theorem dX7_course_82 : decode cX7_course 82 = .ok (.iaload, 1) := by decide +kernel
theorem dX7_course_83 : decode cX7_course 83 = .ok (.istore 5, 2) := by decide +kernel
theorem dX7_course_85 : decode cX7_course 85 = .ok (.aload_n 0, 1) := by decide +kernel
theorem dX7_course_86 : decode cX7_course 86 = .ok (.getfield 7, 3) := by decide +kernel
theorem dX7_course_89 : decode cX7_course 89 = .ok (.iconst 0, 1) := by decide +kernel
theorem dX7_course_90 : decode cX7_course 90 = .ok (.dup2, 1) := by decide +kernel
theorem dX7_course_91 : decode cX7_course 91 = .ok (.iaload, 1) := by decide +kernel
theorem dX7_course_92 : decode cX7_course 92 = .ok (.iconst 1, 1) := by decide +kernel
theorem dX7_course_93 : decode cX7_course 93 = .ok (.iadd, 1) := by decide +kernel
theorem dX7_course_94 : decode cX7_course 94 = .ok (.iastore, 1) := by decide +kernel
theorem dX7_course_95 : decode cX7_course 95 = .ok (.aload_n 0, 1) := by decide +kernel
theorem dX7_course_96 : decode cX7_course 96 = .ok (.getfield 7, 3) := by decide +kernel
theorem dX7_course_99 : decode cX7_course 99 = .ok (.iload 5, 2) := by decide +kernel
theorem dX7_course_101 : decode cX7_course 101 = .ok (.iconst 0, 1) := by decide +kernel
theorem dX7_course_102 : decode cX7_course 102 = .ok (.invokestatic 40, 3) := by decide +kernel
theorem dX7_course_105 : decode cX7_course 105 = .ok (.iload_n 1, 1) := by decide +kernel
theorem dX7_course_106 : decode cX7_course 106 = .ok (.iconst 4, 1) := by decide +kernel
theorem dX7_course_107 : decode cX7_course 107 = .ok (.irem, 1) := by decide +kernel
theorem dX7_course_108 : decode cX7_course 108 = .ok (.iastore, 1) := by decide +kernel
theorem dX7_course_109 : decode cX7_course 109 = .ok (.aload_n 0, 1) := by decide +kernel
theorem dX7_course_110 : decode cX7_course 110 = .ok (.getfield 7, 3) := by decide +kernel
theorem dX7_course_113 : decode cX7_course 113 = .ok (.iload 5, 2) := by decide +kernel
theorem dX7_course_115 : decode cX7_course 115 = .ok (.iconst 1, 1) := by decide +kernel
theorem dX7_course_116 : decode cX7_course 116 = .ok (.invokestatic 40, 3) := by decide +kernel
theorem dX7_course_119 : decode cX7_course 119 = .ok (.iload_n 1, 1) := by decide +kernel
theorem dX7_course_120 : decode cX7_course 120 = .ok (.iconst 4, 1) := by decide +kernel
theorem dX7_course_121 : decode cX7_course 121 = .ok (.idiv, 1) := by decide +kernel
theorem dX7_course_122 : decode cX7_course 122 = .ok (.iconst 4, 1) := by decide +kernel
theorem dX7_course_123 : decode cX7_course 123 = .ok (.irem, 1) := by decide +kernel
theorem dX7_course_124 : decode cX7_course 124 = .ok (.iastore, 1) := by decide +kernel
theorem dX7_course_125 : decode cX7_course 125 = .ok (.aload_n 0, 1) := by decide +kernel
theorem dX7_course_126 : decode cX7_course 126 = .ok (.getfield 7, 3) := by decide +kernel
theorem dX7_course_129 : decode cX7_course 129 = .ok (.iload 5, 2) := by decide +kernel
theorem dX7_course_131 : decode cX7_course 131 = .ok (.iconst 2, 1) := by decide +kernel
theorem dX7_course_132 : decode cX7_course 132 = .ok (.invokestatic 40, 3) := by decide +kernel
theorem dX7_course_135 : decode cX7_course 135 = .ok (.iload_n 1, 1) := by decide +kernel
theorem dX7_course_136 : decode cX7_course 136 = .ok (.bipush 16, 2) := by decide +kernel
theorem dX7_course_138 : decode cX7_course 138 = .ok (.idiv, 1) := by decide +kernel
theorem dX7_course_139 : decode cX7_course 139 = .ok (.iastore, 1) := by decide +kernel
theorem dX7_course_140 : decode cX7_course 140 = .ok (.aload_n 0, 1) := by decide +kernel
theorem dX7_course_141 : decode cX7_course 141 = .ok (.getfield 7, 3) := by decide +kernel
theorem dX7_course_144 : decode cX7_course 144 = .ok (.iload 5, 2) := by decide +kernel
theorem dX7_course_146 : decode cX7_course 146 = .ok (.iconst 3, 1) := by decide +kernel
theorem dX7_course_147 : decode cX7_course 147 = .ok (.invokestatic 40, 3) := by decide +kernel
theorem dX7_course_150 : decode cX7_course 150 = .ok (.iload_n 2, 1) := by decide +kernel
theorem dX7_course_151 : decode cX7_course 151 = .ok (.iastore, 1) := by decide +kernel
theorem dX7_course_152 : decode cX7_course 152 = .ok (.aload_n 0, 1) := by decide +kernel
theorem dX7_course_153 : decode cX7_course 153 = .ok (.getfield 7, 3) := by decide +kernel
theorem dX7_course_156 : decode cX7_course 156 = .ok (.iload 5, 2) := by decide +kernel
theorem dX7_course_158 : decode cX7_course 158 = .ok (.iconst 4, 1) := by decide +kernel
theorem dX7_course_159 : decode cX7_course 159 = .ok (.invokestatic 40, 3) := by decide +kernel
theorem dX7_course_162 : decode cX7_course 162 = .ok (.iload_n 3, 1) := by decide +kernel
theorem dX7_course_163 : decode cX7_course 163 = .ok (.iastore, 1) := by decide +kernel
theorem dX7_course_164 : decode cX7_course 164 = .ok (.aload_n 0, 1) := by decide +kernel
theorem dX7_course_165 : decode cX7_course 165 = .ok (.getfield 7, 3) := by decide +kernel
theorem dX7_course_168 : decode cX7_course 168 = .ok (.iload 5, 2) := by decide +kernel
theorem dX7_course_170 : decode cX7_course 170 = .ok (.iconst 5, 1) := by decide +kernel
theorem dX7_course_171 : decode cX7_course 171 = .ok (.invokestatic 40, 3) := by decide +kernel
theorem dX7_course_174 : decode cX7_course 174 = .ok (.iload 4, 2) := by decide +kernel
theorem dX7_course_176 : decode cX7_course 176 = .ok (.iastore, 1) := by decide +kernel
theorem dX7_course_177 : decode cX7_course 177 = .ok (.aload_n 0, 1) := by decide +kernel
theorem dX7_course_178 : decode cX7_course 178 = .ok (.getfield 7, 3) := by decide +kernel
theorem dX7_course_181 : decode cX7_course 181 = .ok (.iload 5, 2) := by decide +kernel
theorem dX7_course_183 : decode cX7_course 183 = .ok (.bipush 6, 2) := by decide +kernel
theorem dX7_course_185 : decode cX7_course 185 = .ok (.invokestatic 40, 3) := by decide +kernel
theorem dX7_course_188 : decode cX7_course 188 = .ok (.iconst 0, 1) := by decide +kernel
theorem dX7_course_189 : decode cX7_course 189 = .ok (.iastore, 1) := by decide +kernel
theorem dX7_course_190 : decode cX7_course 190 = .ok (.aload_n 0, 1) := by decide +kernel
theorem dX7_course_191 : decode cX7_course 191 = .ok (.getfield 7, 3) := by decide +kernel
theorem dX7_course_194 : decode cX7_course 194 = .ok (.iload 5, 2) := by decide +kernel
theorem dX7_course_196 : decode cX7_course 196 = .ok (.bipush 7, 2) := by decide +kernel
theorem dX7_course_198 : decode cX7_course 198 = .ok (.invokestatic 40, 3) := by decide +kernel
theorem dX7_course_201 : decode cX7_course 201 = .ok (.iconst (-1), 1) := by decide +kernel
theorem dX7_course_202 : decode cX7_course 202 = .ok (.iastore, 1) := by decide +kernel
theorem dX7_course_203 : decode cX7_course 203 = .ok (.aload_n 0, 1) := by decide +kernel
theorem dX7_course_204 : decode cX7_course 204 = .ok (.getfield 7, 3) := by decide +kernel
theorem dX7_course_207 : decode cX7_course 207 = .ok (.iload 5, 2) := by decide +kernel
theorem dX7_course_209 : decode cX7_course 209 = .ok (.bipush 8, 2) := by decide +kernel
theorem dX7_course_211 : decode cX7_course 211 = .ok (.invokestatic 40, 3) := by decide +kernel
theorem dX7_course_214 : decode cX7_course 214 = .ok (.iconst (-1), 1) := by decide +kernel
theorem dX7_course_215 : decode cX7_course 215 = .ok (.iastore, 1) := by decide +kernel
theorem dX7_course_216 : decode cX7_course 216 = .ok (.aload_n 0, 1) := by decide +kernel
theorem dX7_course_217 : decode cX7_course 217 = .ok (.getfield 7, 3) := by decide +kernel
theorem dX7_course_220 : decode cX7_course 220 = .ok (.iload 5, 2) := by decide +kernel
theorem dX7_course_222 : decode cX7_course 222 = .ok (.bipush 9, 2) := by decide +kernel
theorem dX7_course_224 : decode cX7_course 224 = .ok (.invokestatic 40, 3) := by decide +kernel
theorem dX7_course_227 : decode cX7_course 227 = .ok (.iconst 0, 1) := by decide +kernel
theorem dX7_course_228 : decode cX7_course 228 = .ok (.iastore, 1) := by decide +kernel
theorem dX7_course_229 : decode cX7_course 229 = .ok (.aload_n 0, 1) := by decide +kernel
theorem dX7_course_230 : decode cX7_course 230 = .ok (.getfield 7, 3) := by decide +kernel
theorem dX7_course_233 : decode cX7_course 233 = .ok (.iload 5, 2) := by decide +kernel
theorem dX7_course_235 : decode cX7_course 235 = .ok (.bipush 10, 2) := by decide +kernel
theorem dX7_course_237 : decode cX7_course 237 = .ok (.invokestatic 40, 3) := by decide +kernel
theorem dX7_course_240 : decode cX7_course 240 = .ok (.iconst 0, 1) := by decide +kernel
theorem dX7_course_241 : decode cX7_course 241 = .ok (.iastore, 1) := by decide +kernel
theorem dX7_course_242 : decode cX7_course 242 = .ok (.aload_n 0, 1) := by decide +kernel
theorem dX7_course_243 : decode cX7_course 243 = .ok (.iload 5, 2) := by decide +kernel
theorem dX7_course_245 : decode cX7_course 245 = .ok (.invokevirtual 134, 3) := by decide +kernel
theorem dX7_course_248 : decode cX7_course 248 = .ok (.ireturn, 1) := by decide +kernel
theorem dX7_room_0 : decode cX7_room 0 = .ok (.iload_n 1, 1) := by decide +kernel
theorem dX7_room_1 : decode cX7_room 1 = .ok (.iconst 1, 1) := by decide +kernel
theorem dX7_room_2 : decode cX7_room 2 = .ok (.bipush 30, 2) := by decide +kernel
theorem dX7_room_4 : decode cX7_room 4 = .ok (.invokestatic 32, 3) := by decide +kernel
theorem dX7_room_7 : decode cX7_room 7 = .ok (.ifCond .ne 6, 3) := by decide +kernel
theorem dX7_room_10 : decode cX7_room 10 = .ok (.ldc 109, 2) := by decide +kernel
theorem dX7_room_12 : decode cX7_room 12 = .ok (.ireturn, 1) := by decide +kernel
theorem dX7_room_13 : decode cX7_room 13 = .ok (.aload_n 0, 1) := by decide +kernel
theorem dX7_room_14 : decode cX7_room 14 = .ok (.getfield 7, 3) := by decide +kernel
theorem dX7_room_17 : decode cX7_room 17 = .ok (.sipush 547, 3) := by decide +kernel
theorem dX7_room_20 : decode cX7_room 20 = .ok (.iaload, 1) := by decide +kernel
theorem dX7_room_21 : decode cX7_room 21 = .ok (.iconst 1, 1) := by decide +kernel
theorem dX7_room_22 : decode cX7_room 22 = .ok (.if_icmp .ne 6, 3) := by decide +kernel
theorem dX7_room_25 : decode cX7_room 25 = .ok (.ldc 110, 2) := by decide +kernel
theorem dX7_room_27 : decode cX7_room 27 = .ok (.ireturn, 1) := by decide +kernel
theorem dX7_room_28 : decode cX7_room 28 = .ok (.aload_n 0, 1) := by decide +kernel
theorem dX7_room_29 : decode cX7_room 29 = .ok (.getfield 7, 3) := by decide +kernel
theorem dX7_room_32 : decode cX7_room 32 = .ok (.sipush 329, 3) := by decide +kernel
theorem dX7_room_35 : decode cX7_room 35 = .ok (.iaload, 1) := by decide +kernel
theorem dX7_room_36 : decode cX7_room 36 = .ok (.iconst 5, 1) := by decide +kernel
theorem dX7_room_37 : decode cX7_room 37 = .ok (.if_icmp .ne 6, 3) := by decide +kernel
theorem dX7_room_40 : decode cX7_room 40 = .ok (.ldc 111, 2) := by decide +kernel
theorem dX7_room_42 : decode cX7_room 42 = .ok (.ireturn, 1) := by decide +kernel
theorem dX7_room_43 : decode cX7_room 43 = .ok (.aload_n 0, 1) := by decide +kernel
theorem dX7_room_44 : decode cX7_room 44 = .ok (.invokevirtual 131, 3) := by decide +kernel
theorem dX7_room_47 : decode cX7_room 47 = .ok (.aload_n 0, 1) := by decide +kernel
theorem dX7_room_48 : decode cX7_room 48 = .ok (.getfield 7, 3) := by decide +kernel
theorem dX7_room_51 : decode cX7_room 51 = .ok (.sipush 330, 3) := by decide +kernel
theorem dX7_room_54 : decode cX7_room 54 = .ok (.aload_n 0, 1) := by decide +kernel
theorem dX7_room_55 : decode cX7_room 55 = .ok (.getfield 7, 3) := by decide +kernel
theorem dX7_room_58 : decode cX7_room 58 = .ok (.sipush 329, 3) := by decide +kernel
theorem dX7_room_61 : decode cX7_room 61 = .ok (.iaload, 1) := by decide +kernel
theorem dX7_room_62 : decode cX7_room 62 = .ok (.iadd, 1) := by decide +kernel
theorem dX7_room_63 : decode cX7_room 63 = .ok (.iload_n 1, 1) := by decide +kernel
theorem dX7_room_64 : decode cX7_room 64 = .ok (.iastore, 1) := by decide +kernel
theorem dX7_room_65 : decode cX7_room 65 = .ok (.aload_n 0, 1) := by decide +kernel
theorem dX7_room_66 : decode cX7_room 66 = .ok (.getfield 7, 3) := by decide +kernel
theorem dX7_room_69 : decode cX7_room 69 = .ok (.sipush 329, 3) := by decide +kernel
theorem dX7_room_72 : decode cX7_room 72 = .ok (.dup2, 1) := by decide +kernel
theorem dX7_room_73 : decode cX7_room 73 = .ok (.iaload, 1) := by decide +kernel
theorem dX7_room_74 : decode cX7_room 74 = .ok (.iconst 1, 1) := by decide +kernel
theorem dX7_room_75 : decode cX7_room 75 = .ok (.iadd, 1) := by decide +kernel
theorem dX7_room_76 : decode cX7_room 76 = .ok (.iastore, 1) := by decide +kernel
theorem dX7_room_77 : decode cX7_room 77 = .ok (.aload_n 0, 1) := by decide +kernel
theorem dX7_room_78 : decode cX7_room 78 = .ok (.aload_n 0, 1) := by decide +kernel
theorem dX7_room_79 : decode cX7_room 79 = .ok (.getfield 7, 3) := by decide +kernel
theorem dX7_room_82 : decode cX7_room 82 = .ok (.sipush 329, 3) := by decide +kernel
theorem dX7_room_85 : decode cX7_room 85 = .ok (.iaload, 1) := by decide +kernel
theorem dX7_room_86 : decode cX7_room 86 = .ok (.iconst 1, 1) := by decide +kernel
theorem dX7_room_87 : decode cX7_room 87 = .ok (.isub, 1) := by decide +kernel
theorem dX7_room_88 : decode cX7_room 88 = .ok (.invokevirtual 134, 3) := by decide +kernel
theorem dX7_room_91 : decode cX7_room 91 = .ok (.ireturn, 1) := by decide +kernel
theorem dX7_join_0 : decode cX7_join 0 = .ok (.aload_n 0, 1) := by decide +kernel
theorem dX7_join_1 : decode cX7_join 1 = .ok (.invokevirtual 131, 3) := by decide +kernel
theorem dX7_join_4 : decode cX7_join 4 = .ok (.aload_n 0, 1) := by decide +kernel
theorem dX7_join_5 : decode cX7_join 5 = .ok (.aload_n 0, 1) := by decide +kernel
theorem dX7_join_6 : decode cX7_join 6 = .ok (.iload_n 1, 1) := by decide +kernel
theorem dX7_join_7 : decode cX7_join 7 = .ok (.iload_n 2, 1) := by decide +kernel
theorem dX7_join_8 : decode cX7_join 8 = .ok (.iload_n 3, 1) := by decide +kernel
theorem dX7_join_9 : decode cX7_join 9 = .ok (.invokevirtual 137, 3) := by decide +kernel
theorem dX7_join_12 : decode cX7_join 12 = .ok (.invokevirtual 134, 3) := by decide +kernel
theorem dX7_join_15 : decode cX7_join 15 = .ok (.ireturn, 1) := by decide +kernel
theorem dX7_wish_0 : decode cX7_wish 0 = .ok (.aload_n 0, 1) := by decide +kernel
theorem dX7_wish_1 : decode cX7_wish 1 = .ok (.invokevirtual 131, 3) := by decide +kernel
theorem dX7_wish_4 : decode cX7_wish 4 = .ok (.aload_n 0, 1) := by decide +kernel
theorem dX7_wish_5 : decode cX7_wish 5 = .ok (.aload_n 0, 1) := by decide +kernel
theorem dX7_wish_6 : decode cX7_wish 6 = .ok (.iload_n 1, 1) := by decide +kernel
theorem dX7_wish_7 : decode cX7_wish 7 = .ok (.iload_n 2, 1) := by decide +kernel
theorem dX7_wish_8 : decode cX7_wish 8 = .ok (.iload_n 3, 1) := by decide +kernel
theorem dX7_wish_9 : decode cX7_wish 9 = .ok (.iload 4, 2) := by decide +kernel
theorem dX7_wish_11 : decode cX7_wish 11 = .ok (.invokevirtual 141, 3) := by decide +kernel
theorem dX7_wish_14 : decode cX7_wish 14 = .ok (.invokevirtual 134, 3) := by decide +kernel
theorem dX7_wish_17 : decode cX7_wish 17 = .ok (.ireturn, 1) := by decide +kernel
theorem dX7_leave_0 : decode cX7_leave 0 = .ok (.aload_n 0, 1) := by decide +kernel
theorem dX7_leave_1 : decode cX7_leave 1 = .ok (.invokevirtual 131, 3) := by decide +kernel
theorem dX7_leave_4 : decode cX7_leave 4 = .ok (.aload_n 0, 1) := by decide +kernel
theorem dX7_leave_5 : decode cX7_leave 5 = .ok (.aload_n 0, 1) := by decide +kernel
theorem dX7_leave_6 : decode cX7_leave 6 = .ok (.iload_n 1, 1) := by decide +kernel
theorem dX7_leave_7 : decode cX7_leave 7 = .ok (.invokevirtual 145, 3) := by decide +kernel
theorem dX7_leave_10 : decode cX7_leave 10 = .ok (.invokevirtual 134, 3) := by decide +kernel
theorem dX7_leave_13 : decode cX7_leave 13 = .ok (.ireturn, 1) := by decide +kernel
theorem dX7_close_0 : decode cX7_close 0 = .ok (.aload_n 0, 1) := by decide +kernel
theorem dX7_close_1 : decode cX7_close 1 = .ok (.invokevirtual 131, 3) := by decide +kernel
theorem dX7_close_4 : decode cX7_close 4 = .ok (.aload_n 0, 1) := by decide +kernel
theorem dX7_close_5 : decode cX7_close 5 = .ok (.aload_n 0, 1) := by decide +kernel
theorem dX7_close_6 : decode cX7_close 6 = .ok (.invokevirtual 148, 3) := by decide +kernel
theorem dX7_close_9 : decode cX7_close 9 = .ok (.invokevirtual 134, 3) := by decide +kernel
theorem dX7_close_12 : decode cX7_close 12 = .ok (.ireturn, 1) := by decide +kernel
theorem dX7_term_0 : decode cX7_term 0 = .ok (.aload_n 0, 1) := by decide +kernel
theorem dX7_term_1 : decode cX7_term 1 = .ok (.invokevirtual 131, 3) := by decide +kernel
theorem dX7_term_4 : decode cX7_term 4 = .ok (.aload_n 0, 1) := by decide +kernel
theorem dX7_term_5 : decode cX7_term 5 = .ok (.aload_n 0, 1) := by decide +kernel
theorem dX7_term_6 : decode cX7_term 6 = .ok (.invokevirtual 151, 3) := by decide +kernel
theorem dX7_term_9 : decode cX7_term 9 = .ok (.invokevirtual 134, 3) := by decide +kernel
theorem dX7_term_12 : decode cX7_term 12 = .ok (.ireturn, 1) := by decide +kernel
theorem dX7_waitsFor_0 : decode cX7_waitsFor 0 = .ok (.aload_n 0, 1) := by decide +kernel
theorem dX7_waitsFor_1 : decode cX7_waitsFor 1 = .ok (.iload_n 1, 1) := by decide +kernel
theorem dX7_waitsFor_2 : decode cX7_waitsFor 2 = .ok (.invokevirtual 54, 3) := by decide +kernel
theorem dX7_waitsFor_5 : decode cX7_waitsFor 5 = .ok (.ifCond .eq 31, 3) := by decide +kernel
theorem dX7_waitsFor_8 : decode cX7_waitsFor 8 = .ok (.aload_n 0, 1) := by decide +kernel
theorem dX7_waitsFor_9 : decode cX7_waitsFor 9 = .ok (.iload_n 1, 1) := by decide +kernel
theorem dX7_waitsFor_10 : decode cX7_waitsFor 10 = .ok (.iload_n 2, 1) := by decide +kernel
theorem dX7_waitsFor_11 : decode cX7_waitsFor 11 = .ok (.invokevirtual 51, 3) := by decide +kernel
theorem dX7_waitsFor_14 : decode cX7_waitsFor 14 = .ok (.iconst 3, 1) := by decide +kernel
theorem dX7_waitsFor_15 : decode cX7_waitsFor 15 = .ok (.if_icmp .ge 21, 3) := by decide +kernel
theorem dX7_waitsFor_18 : decode cX7_waitsFor 18 = .ok (.aload_n 0, 1) := by decide +kernel
theorem dX7_waitsFor_19 : decode cX7_waitsFor 19 = .ok (.iload_n 1, 1) := by decide +kernel
theorem dX7_waitsFor_20 : decode cX7_waitsFor 20 = .ok (.iload_n 2, 1) := by decide +kernel
theorem dX7_waitsFor_21 : decode cX7_waitsFor 21 = .ok (.invokevirtual 51, 3) := by decide +kernel
theorem dX7_waitsFor_24 : decode cX7_waitsFor 24 = .ok (.aload_n 0, 1) := by decide +kernel
theorem dX7_waitsFor_25 : decode cX7_waitsFor 25 = .ok (.iload_n 1, 1) := by decide +kernel
theorem dX7_waitsFor_26 : decode cX7_waitsFor 26 = .ok (.invokevirtual 57, 3) := by decide +kernel
theorem dX7_waitsFor_29 : decode cX7_waitsFor 29 = .ok (.if_icmp .ge 7, 3) := by decide +kernel
theorem dX7_waitsFor_32 : decode cX7_waitsFor 32 = .ok (.iconst 1, 1) := by decide +kernel
theorem dX7_waitsFor_33 : decode cX7_waitsFor 33 = .ok (.goto 4, 3) := by decide +kernel
theorem dX7_waitsFor_36 : decode cX7_waitsFor 36 = .ok (.iconst 0, 1) := by decide +kernel
theorem dX7_waitsFor_37 : decode cX7_waitsFor 37 = .ok (.ireturn, 1) := by decide +kernel
theorem dX7_waiting_0 : decode cX7_waiting 0 = .ok (.iconst 0, 1) := by decide +kernel
theorem dX7_waiting_1 : decode cX7_waiting 1 = .ok (.istore_n 2, 1) := by decide +kernel
theorem dX7_waiting_2 : decode cX7_waiting 2 = .ok (.iconst 0, 1) := by decide +kernel
theorem dX7_waiting_3 : decode cX7_waiting 3 = .ok (.istore_n 3, 1) := by decide +kernel
theorem dX7_waiting_4 : decode cX7_waiting 4 = .ok (.iload_n 3, 1) := by decide +kernel
theorem dX7_waiting_5 : decode cX7_waiting 5 = .ok (.aload_n 0, 1) := by decide +kernel
theorem dX7_waiting_6 : decode cX7_waiting 6 = .ok (.getfield 7, 3) := by decide +kernel
theorem dX7_waiting_9 : decode cX7_waiting 9 = .ok (.sipush 335, 3) := by decide +kernel
theorem dX7_waiting_12 : decode cX7_waiting 12 = .ok (.iaload, 1) := by decide +kernel
theorem dX7_waiting_13 : decode cX7_waiting 13 = .ok (.if_icmp .ge 26, 3) := by decide +kernel
theorem dX7_waiting_16 : decode cX7_waiting 16 = .ok (.iload_n 2, 1) := by decide +kernel
theorem dX7_waiting_17 : decode cX7_waiting 17 = .ok (.aload_n 0, 1) := by decide +kernel
theorem dX7_waiting_18 : decode cX7_waiting 18 = .ok (.iload_n 3, 1) := by decide +kernel
theorem dX7_waiting_19 : decode cX7_waiting 19 = .ok (.iload_n 1, 1) := by decide +kernel
theorem dX7_waiting_20 : decode cX7_waiting 20 = .ok (.invokevirtual 154, 3) := by decide +kernel
theorem dX7_waiting_23 : decode cX7_waiting 23 = .ok (.ifCond .eq 7, 3) := by decide +kernel
theorem dX7_waiting_26 : decode cX7_waiting 26 = .ok (.iconst 1, 1) := by decide +kernel
theorem dX7_waiting_27 : decode cX7_waiting 27 = .ok (.goto 4, 3) := by decide +kernel
theorem dX7_waiting_30 : decode cX7_waiting 30 = .ok (.iconst 0, 1) := by decide +kernel
theorem dX7_waiting_31 : decode cX7_waiting 31 = .ok (.iadd, 1) := by decide +kernel
theorem dX7_waiting_32 : decode cX7_waiting 32 = .ok (.istore_n 2, 1) := by decide +kernel
theorem dX7_waiting_33 : decode cX7_waiting 33 = .ok (.iinc 3 1, 3) := by decide +kernel
theorem dX7_waiting_36 : decode cX7_waiting 36 = .ok (.goto (-32), 3) := by decide +kernel
theorem dX7_waiting_39 : decode cX7_waiting 39 = .ok (.iload_n 2, 1) := by decide +kernel
theorem dX7_waiting_40 : decode cX7_waiting 40 = .ok (.ireturn, 1) := by decide +kernel
theorem dX7_told_0 : decode cX7_told 0 = .ok (.iload_n 0, 1) := by decide +kernel
theorem dX7_told_1 : decode cX7_told 1 = .ok (.ifCond .ge 8, 3) := by decide +kernel
theorem dX7_told_4 : decode cX7_told 4 = .ok (.ldc 157, 2) := by decide +kernel
theorem dX7_told_6 : decode cX7_told 6 = .ok (.goto 4, 3) := by decide +kernel
theorem dX7_told_9 : decode cX7_told 9 = .ok (.iload_n 0, 1) := by decide +kernel
theorem dX7_told_10 : decode cX7_told 10 = .ok (.ireturn, 1) := by decide +kernel
theorem dX7_courseOf_0 : decode cX7_courseOf 0 = .ok (.aload_n 0, 1) := by decide +kernel
theorem dX7_courseOf_1 : decode cX7_courseOf 1 = .ok (.iload_n 1, 1) := by decide +kernel
theorem dX7_courseOf_2 : decode cX7_courseOf 2 = .ok (.invokevirtual 103, 3) := by decide +kernel
theorem dX7_courseOf_5 : decode cX7_courseOf 5 = .ok (.ifCond .eq 13, 3) := by decide +kernel
theorem dX7_courseOf_8 : decode cX7_courseOf 8 = .ok (.iload_n 2, 1) := by decide +kernel
theorem dX7_courseOf_9 : decode cX7_courseOf 9 = .ok (.iconst 0, 1) := by decide +kernel
theorem dX7_courseOf_10 : decode cX7_courseOf 10 = .ok (.bipush 12, 2) := by decide +kernel
theorem dX7_courseOf_12 : decode cX7_courseOf 12 = .ok (.invokestatic 32, 3) := by decide +kernel
theorem dX7_courseOf_15 : decode cX7_courseOf 15 = .ok (.ifCond .ne 6, 3) := by decide +kernel
theorem dX7_courseOf_18 : decode cX7_courseOf 18 = .ok (.ldc 109, 2) := by decide +kernel
theorem dX7_courseOf_20 : decode cX7_courseOf 20 = .ok (.ireturn, 1) := by decide +kernel
theorem dX7_courseOf_21 : decode cX7_courseOf 21 = .ok (.aload_n 0, 1) := by decide +kernel
theorem dX7_courseOf_22 : decode cX7_courseOf 22 = .ok (.getfield 7, 3) := by decide +kernel
theorem dX7_courseOf_25 : decode cX7_courseOf 25 = .ok (.iload_n 1, 1) := by decide +kernel
theorem dX7_courseOf_26 : decode cX7_courseOf 26 = .ok (.iconst 3, 1) := by decide +kernel
theorem dX7_courseOf_27 : decode cX7_courseOf 27 = .ok (.invokestatic 40, 3) := by decide +kernel
theorem dX7_courseOf_30 : decode cX7_courseOf 30 = .ok (.iaload, 1) := by decide +kernel
theorem dX7_courseOf_31 : decode cX7_courseOf 31 = .ok (.aload_n 0, 1) := by decide +kernel
theorem dX7_courseOf_32 : decode cX7_courseOf 32 = .ok (.iload_n 1, 1) := by decide +kernel
theorem dX7_courseOf_33 : decode cX7_courseOf 33 = .ok (.invokevirtual 47, 3) := by decide +kernel
theorem dX7_courseOf_36 : decode cX7_courseOf 36 = .ok (.isub, 1) := by decide +kernel
theorem dX7_courseOf_37 : decode cX7_courseOf 37 = .ok (.istore_n 3, 1) := by decide +kernel
theorem dX7_courseOf_38 : decode cX7_courseOf 38 = .ok (.iload_n 2, 1) := by decide +kernel
theorem dX7_courseOf_39 : decode cX7_courseOf 39 = .ok (.tableswitch 101 7 12 #[37, 43, 49, 64, 79, 89], 37) := by decide +kernel
theorem dX7_courseOf_76 : decode cX7_courseOf 76 = .ok (.aload_n 0, 1) := by decide +kernel
theorem dX7_courseOf_77 : decode cX7_courseOf 77 = .ok (.iload_n 1, 1) := by decide +kernel
theorem dX7_courseOf_78 : decode cX7_courseOf 78 = .ok (.invokevirtual 47, 3) := by decide +kernel
theorem dX7_courseOf_81 : decode cX7_courseOf 81 = .ok (.ireturn, 1) := by decide +kernel
theorem dX7_courseOf_82 : decode cX7_courseOf 82 = .ok (.aload_n 0, 1) := by decide +kernel
theorem dX7_courseOf_83 : decode cX7_courseOf 83 = .ok (.iload_n 1, 1) := by decide +kernel
theorem dX7_courseOf_84 : decode cX7_courseOf 84 = .ok (.invokevirtual 158, 3) := by decide +kernel
theorem dX7_courseOf_87 : decode cX7_courseOf 87 = .ok (.ireturn, 1) := by decide +kernel
theorem dX7_courseOf_88 : decode cX7_courseOf 88 = .ok (.aload_n 0, 1) := by decide +kernel
theorem dX7_courseOf_89 : decode cX7_courseOf 89 = .ok (.getfield 7, 3) := by decide +kernel
theorem dX7_courseOf_92 : decode cX7_courseOf 92 = .ok (.iload_n 1, 1) := by decide +kernel
theorem dX7_courseOf_93 : decode cX7_courseOf 93 = .ok (.bipush 7, 2) := by decide +kernel
theorem dX7_courseOf_95 : decode cX7_courseOf 95 = .ok (.invokestatic 40, 3) := by decide +kernel
theorem dX7_courseOf_98 : decode cX7_courseOf 98 = .ok (.iaload, 1) := by decide +kernel
theorem dX7_courseOf_99 : decode cX7_courseOf 99 = .ok (.invokestatic 161, 3) := by decide +kernel
theorem dX7_courseOf_102 : decode cX7_courseOf 102 = .ok (.ireturn, 1) := by decide +kernel
theorem dX7_courseOf_103 : decode cX7_courseOf 103 = .ok (.aload_n 0, 1) := by decide +kernel
theorem dX7_courseOf_104 : decode cX7_courseOf 104 = .ok (.getfield 7, 3) := by decide +kernel
theorem dX7_courseOf_107 : decode cX7_courseOf 107 = .ok (.iload_n 1, 1) := by decide +kernel
theorem dX7_courseOf_108 : decode cX7_courseOf 108 = .ok (.bipush 8, 2) := by decide +kernel
theorem dX7_courseOf_110 : decode cX7_courseOf 110 = .ok (.invokestatic 40, 3) := by decide +kernel
theorem dX7_courseOf_113 : decode cX7_courseOf 113 = .ok (.iaload, 1) := by decide +kernel
theorem dX7_courseOf_114 : decode cX7_courseOf 114 = .ok (.invokestatic 161, 3) := by decide +kernel
theorem dX7_courseOf_117 : decode cX7_courseOf 117 = .ok (.ireturn, 1) := by decide +kernel
theorem dX7_courseOf_118 : decode cX7_courseOf 118 = .ok (.iload_n 3, 1) := by decide +kernel
theorem dX7_courseOf_119 : decode cX7_courseOf 119 = .ok (.ifCond .ge 7, 3) := by decide +kernel
theorem dX7_courseOf_122 : decode cX7_courseOf 122 = .ok (.iconst 0, 1) := by decide +kernel
theorem dX7_courseOf_123 : decode cX7_courseOf 123 = .ok (.goto 4, 3) := by decide +kernel
theorem dX7_courseOf_126 : decode cX7_courseOf 126 = .ok (.iload_n 3, 1) := by decide +kernel
theorem dX7_courseOf_127 : decode cX7_courseOf 127 = .ok (.ireturn, 1) := by decide +kernel
theorem dX7_courseOf_128 : decode cX7_courseOf 128 = .ok (.aload_n 0, 1) := by decide +kernel
theorem dX7_courseOf_129 : decode cX7_courseOf 129 = .ok (.getfield 7, 3) := by decide +kernel
theorem dX7_courseOf_132 : decode cX7_courseOf 132 = .ok (.iload_n 1, 1) := by decide +kernel
theorem dX7_courseOf_133 : decode cX7_courseOf 133 = .ok (.bipush 9, 2) := by decide +kernel
theorem dX7_courseOf_135 : decode cX7_courseOf 135 = .ok (.invokestatic 40, 3) := by decide +kernel
theorem dX7_courseOf_138 : decode cX7_courseOf 138 = .ok (.iaload, 1) := by decide +kernel
theorem dX7_courseOf_139 : decode cX7_courseOf 139 = .ok (.ireturn, 1) := by decide +kernel
theorem dX7_courseOf_140 : decode cX7_courseOf 140 = .ok (.aload_n 0, 1) := by decide +kernel
theorem dX7_courseOf_141 : decode cX7_courseOf 141 = .ok (.getfield 7, 3) := by decide +kernel
theorem dX7_courseOf_144 : decode cX7_courseOf 144 = .ok (.iload_n 1, 1) := by decide +kernel
theorem dX7_courseOf_145 : decode cX7_courseOf 145 = .ok (.iload_n 2, 1) := by decide +kernel
theorem dX7_courseOf_146 : decode cX7_courseOf 146 = .ok (.invokestatic 40, 3) := by decide +kernel
theorem dX7_courseOf_149 : decode cX7_courseOf 149 = .ok (.iaload, 1) := by decide +kernel
theorem dX7_courseOf_150 : decode cX7_courseOf 150 = .ok (.ireturn, 1) := by decide +kernel
theorem dX7_member_0 : decode cX7_member 0 = .ok (.aload_n 0, 1) := by decide +kernel
theorem dX7_member_1 : decode cX7_member 1 = .ok (.iload_n 1, 1) := by decide +kernel
theorem dX7_member_2 : decode cX7_member 2 = .ok (.invokevirtual 103, 3) := by decide +kernel
theorem dX7_member_5 : decode cX7_member 5 = .ok (.ifCond .eq 7, 3) := by decide +kernel
theorem dX7_member_8 : decode cX7_member 8 = .ok (.iload_n 2, 1) := by decide +kernel
theorem dX7_member_9 : decode cX7_member 9 = .ok (.ifCond .ge 6, 3) := by decide +kernel
theorem dX7_member_12 : decode cX7_member 12 = .ok (.ldc 109, 2) := by decide +kernel
theorem dX7_member_14 : decode cX7_member 14 = .ok (.ireturn, 1) := by decide +kernel
theorem dX7_member_15 : decode cX7_member 15 = .ok (.iload_n 2, 1) := by decide +kernel
theorem dX7_member_16 : decode cX7_member 16 = .ok (.aload_n 0, 1) := by decide +kernel
theorem dX7_member_17 : decode cX7_member 17 = .ok (.iload_n 1, 1) := by decide +kernel
theorem dX7_member_18 : decode cX7_member 18 = .ok (.invokevirtual 47, 3) := by decide +kernel
theorem dX7_member_21 : decode cX7_member 21 = .ok (.if_icmp .ge 19, 3) := by decide +kernel
theorem dX7_member_24 : decode cX7_member 24 = .ok (.aload_n 0, 1) := by decide +kernel
theorem dX7_member_25 : decode cX7_member 25 = .ok (.getfield 7, 3) := by decide +kernel
theorem dX7_member_28 : decode cX7_member 28 = .ok (.iload_n 1, 1) := by decide +kernel
theorem dX7_member_29 : decode cX7_member 29 = .ok (.bipush 11, 2) := by decide +kernel
theorem dX7_member_31 : decode cX7_member 31 = .ok (.iload_n 2, 1) := by decide +kernel
theorem dX7_member_32 : decode cX7_member 32 = .ok (.iadd, 1) := by decide +kernel
theorem dX7_member_33 : decode cX7_member 33 = .ok (.invokestatic 40, 3) := by decide +kernel
theorem dX7_member_36 : decode cX7_member 36 = .ok (.iaload, 1) := by decide +kernel
theorem dX7_member_37 : decode cX7_member 37 = .ok (.goto 5, 3) := by decide +kernel
theorem dX7_member_40 : decode cX7_member 40 = .ok (.ldc 157, 2) := by decide +kernel
theorem dX7_member_42 : decode cX7_member 42 = .ok (.ireturn, 1) := by decide +kernel
theorem dX7_waits_0 : decode cX7_waits 0 = .ok (.aload_n 0, 1) := by decide +kernel
theorem dX7_waits_1 : decode cX7_waits 1 = .ok (.iload_n 1, 1) := by decide +kernel
theorem dX7_waits_2 : decode cX7_waits 2 = .ok (.invokevirtual 103, 3) := by decide +kernel
theorem dX7_waits_5 : decode cX7_waits 5 = .ok (.ifCond .eq 7, 3) := by decide +kernel
theorem dX7_waits_8 : decode cX7_waits 8 = .ok (.iload_n 2, 1) := by decide +kernel
theorem dX7_waits_9 : decode cX7_waits 9 = .ok (.ifCond .ge 6, 3) := by decide +kernel
theorem dX7_waits_12 : decode cX7_waits 12 = .ok (.ldc 109, 2) := by decide +kernel
theorem dX7_waits_14 : decode cX7_waits 14 = .ok (.ireturn, 1) := by decide +kernel
theorem dX7_waits_15 : decode cX7_waits 15 = .ok (.iload_n 2, 1) := by decide +kernel
theorem dX7_waits_16 : decode cX7_waits 16 = .ok (.istore_n 3, 1) := by decide +kernel
theorem dX7_waits_17 : decode cX7_waits 17 = .ok (.iconst 0, 1) := by decide +kernel
theorem dX7_waits_18 : decode cX7_waits 18 = .ok (.istore 4, 2) := by decide +kernel
theorem dX7_waits_20 : decode cX7_waits 20 = .ok (.iload 4, 2) := by decide +kernel
theorem dX7_waits_22 : decode cX7_waits 22 = .ok (.aload_n 0, 1) := by decide +kernel
theorem dX7_waits_23 : decode cX7_waits 23 = .ok (.getfield 7, 3) := by decide +kernel
theorem dX7_waits_26 : decode cX7_waits 26 = .ok (.sipush 335, 3) := by decide +kernel
theorem dX7_waits_29 : decode cX7_waits 29 = .ok (.iaload, 1) := by decide +kernel
theorem dX7_waits_30 : decode cX7_waits 30 = .ok (.if_icmp .ge 29, 3) := by decide +kernel
theorem dX7_waits_33 : decode cX7_waits 33 = .ok (.aload_n 0, 1) := by decide +kernel
theorem dX7_waits_34 : decode cX7_waits 34 = .ok (.iload 4, 2) := by decide +kernel
theorem dX7_waits_36 : decode cX7_waits 36 = .ok (.iload_n 1, 1) := by decide +kernel
theorem dX7_waits_37 : decode cX7_waits 37 = .ok (.invokevirtual 154, 3) := by decide +kernel
theorem dX7_waits_40 : decode cX7_waits 40 = .ok (.ifCond .eq 13, 3) := by decide +kernel
theorem dX7_waits_43 : decode cX7_waits 43 = .ok (.iload_n 3, 1) := by decide +kernel
theorem dX7_waits_44 : decode cX7_waits 44 = .ok (.ifCond .ne 6, 3) := by decide +kernel
theorem dX7_waits_47 : decode cX7_waits 47 = .ok (.iload 4, 2) := by decide +kernel
theorem dX7_waits_49 : decode cX7_waits 49 = .ok (.ireturn, 1) := by decide +kernel
theorem dX7_waits_50 : decode cX7_waits 50 = .ok (.iinc 3 (-1), 3) := by decide +kernel
theorem dX7_waits_53 : decode cX7_waits 53 = .ok (.iinc 4 1, 3) := by decide +kernel
theorem dX7_waits_56 : decode cX7_waits 56 = .ok (.goto (-36), 3) := by decide +kernel
theorem dX7_waits_59 : decode cX7_waits 59 = .ok (.ldc 157, 2) := by decide +kernel
theorem dX7_waits_61 : decode cX7_waits 61 = .ok (.ireturn, 1) := by decide +kernel
theorem dX7_personOf_0 : decode cX7_personOf 0 = .ok (.aload_n 0, 1) := by decide +kernel
theorem dX7_personOf_1 : decode cX7_personOf 1 = .ok (.iload_n 1, 1) := by decide +kernel
theorem dX7_personOf_2 : decode cX7_personOf 2 = .ok (.invokevirtual 116, 3) := by decide +kernel
theorem dX7_personOf_5 : decode cX7_personOf 5 = .ok (.ifCond .eq 13, 3) := by decide +kernel
theorem dX7_personOf_8 : decode cX7_personOf 8 = .ok (.iload_n 2, 1) := by decide +kernel
theorem dX7_personOf_9 : decode cX7_personOf 9 = .ok (.iconst 0, 1) := by decide +kernel
theorem dX7_personOf_10 : decode cX7_personOf 10 = .ok (.bipush 7, 2) := by decide +kernel
theorem dX7_personOf_12 : decode cX7_personOf 12 = .ok (.invokestatic 32, 3) := by decide +kernel
theorem dX7_personOf_15 : decode cX7_personOf 15 = .ok (.ifCond .ne 6, 3) := by decide +kernel
theorem dX7_personOf_18 : decode cX7_personOf 18 = .ok (.ldc 109, 2) := by decide +kernel
theorem dX7_personOf_20 : decode cX7_personOf 20 = .ok (.ireturn, 1) := by decide +kernel
theorem dX7_personOf_21 : decode cX7_personOf 21 = .ok (.iload_n 2, 1) := by decide +kernel
theorem dX7_personOf_22 : decode cX7_personOf 22 = .ok (.tableswitch 88 0 4 #[34, 45, 59, 65, 76], 34) := by decide +kernel
theorem dX7_personOf_56 : decode cX7_personOf 56 = .ok (.aload_n 0, 1) := by decide +kernel
theorem dX7_personOf_57 : decode cX7_personOf 57 = .ok (.getfield 7, 3) := by decide +kernel
theorem dX7_personOf_60 : decode cX7_personOf 60 = .ok (.iload_n 1, 1) := by decide +kernel
theorem dX7_personOf_61 : decode cX7_personOf 61 = .ok (.iconst 0, 1) := by decide +kernel
theorem dX7_personOf_62 : decode cX7_personOf 62 = .ok (.invokestatic 36, 3) := by decide +kernel
theorem dX7_personOf_65 : decode cX7_personOf 65 = .ok (.iaload, 1) := by decide +kernel
theorem dX7_personOf_66 : decode cX7_personOf 66 = .ok (.ireturn, 1) := by decide +kernel
theorem dX7_personOf_67 : decode cX7_personOf 67 = .ok (.aload_n 0, 1) := by decide +kernel
theorem dX7_personOf_68 : decode cX7_personOf 68 = .ok (.getfield 7, 3) := by decide +kernel
theorem dX7_personOf_71 : decode cX7_personOf 71 = .ok (.iload_n 1, 1) := by decide +kernel
theorem dX7_personOf_72 : decode cX7_personOf 72 = .ok (.iconst 4, 1) := by decide +kernel
theorem dX7_personOf_73 : decode cX7_personOf 73 = .ok (.invokestatic 36, 3) := by decide +kernel
theorem dX7_personOf_76 : decode cX7_personOf 76 = .ok (.iaload, 1) := by decide +kernel
theorem dX7_personOf_77 : decode cX7_personOf 77 = .ok (.invokestatic 161, 3) := by decide +kernel
theorem dX7_personOf_80 : decode cX7_personOf 80 = .ok (.ireturn, 1) := by decide +kernel
theorem dX7_personOf_81 : decode cX7_personOf 81 = .ok (.aload_n 0, 1) := by decide +kernel
theorem dX7_personOf_82 : decode cX7_personOf 82 = .ok (.iload_n 1, 1) := by decide +kernel
theorem dX7_personOf_83 : decode cX7_personOf 83 = .ok (.invokevirtual 57, 3) := by decide +kernel
theorem dX7_personOf_86 : decode cX7_personOf 86 = .ok (.ireturn, 1) := by decide +kernel
theorem dX7_personOf_87 : decode cX7_personOf 87 = .ok (.aload_n 0, 1) := by decide +kernel
theorem dX7_personOf_88 : decode cX7_personOf 88 = .ok (.getfield 7, 3) := by decide +kernel
theorem dX7_personOf_91 : decode cX7_personOf 91 = .ok (.iload_n 1, 1) := by decide +kernel
theorem dX7_personOf_92 : decode cX7_personOf 92 = .ok (.iconst 5, 1) := by decide +kernel
theorem dX7_personOf_93 : decode cX7_personOf 93 = .ok (.invokestatic 36, 3) := by decide +kernel
theorem dX7_personOf_96 : decode cX7_personOf 96 = .ok (.iaload, 1) := by decide +kernel
theorem dX7_personOf_97 : decode cX7_personOf 97 = .ok (.ireturn, 1) := by decide +kernel
theorem dX7_personOf_98 : decode cX7_personOf 98 = .ok (.aload_n 0, 1) := by decide +kernel
theorem dX7_personOf_99 : decode cX7_personOf 99 = .ok (.getfield 7, 3) := by decide +kernel
theorem dX7_personOf_102 : decode cX7_personOf 102 = .ok (.iload_n 1, 1) := by decide +kernel
theorem dX7_personOf_103 : decode cX7_personOf 103 = .ok (.bipush 6, 2) := by decide +kernel
theorem dX7_personOf_105 : decode cX7_personOf 105 = .ok (.invokestatic 36, 3) := by decide +kernel
theorem dX7_personOf_108 : decode cX7_personOf 108 = .ok (.iaload, 1) := by decide +kernel
theorem dX7_personOf_109 : decode cX7_personOf 109 = .ok (.ireturn, 1) := by decide +kernel
theorem dX7_personOf_110 : decode cX7_personOf 110 = .ok (.aload_n 0, 1) := by decide +kernel
theorem dX7_personOf_111 : decode cX7_personOf 111 = .ok (.getfield 7, 3) := by decide +kernel
theorem dX7_personOf_114 : decode cX7_personOf 114 = .ok (.iload_n 1, 1) := by decide +kernel
theorem dX7_personOf_115 : decode cX7_personOf 115 = .ok (.iconst 1, 1) := by decide +kernel
theorem dX7_personOf_116 : decode cX7_personOf 116 = .ok (.iload_n 2, 1) := by decide +kernel
theorem dX7_personOf_117 : decode cX7_personOf 117 = .ok (.iadd, 1) := by decide +kernel
theorem dX7_personOf_118 : decode cX7_personOf 118 = .ok (.iconst 5, 1) := by decide +kernel
theorem dX7_personOf_119 : decode cX7_personOf 119 = .ok (.isub, 1) := by decide +kernel
theorem dX7_personOf_120 : decode cX7_personOf 120 = .ok (.invokestatic 36, 3) := by decide +kernel
theorem dX7_personOf_123 : decode cX7_personOf 123 = .ok (.iaload, 1) := by decide +kernel
theorem dX7_personOf_124 : decode cX7_personOf 124 = .ok (.invokestatic 161, 3) := by decide +kernel
theorem dX7_personOf_127 : decode cX7_personOf 127 = .ok (.ireturn, 1) := by decide +kernel
theorem dX7_roomOf_0 : decode cX7_roomOf 0 = .ok (.aload_n 0, 1) := by decide +kernel
theorem dX7_roomOf_1 : decode cX7_roomOf 1 = .ok (.iload_n 1, 1) := by decide +kernel
theorem dX7_roomOf_2 : decode cX7_roomOf 2 = .ok (.invokevirtual 164, 3) := by decide +kernel
theorem dX7_roomOf_5 : decode cX7_roomOf 5 = .ok (.ifCond .eq 12, 3) := by decide +kernel
theorem dX7_roomOf_8 : decode cX7_roomOf 8 = .ok (.iload_n 2, 1) := by decide +kernel
theorem dX7_roomOf_9 : decode cX7_roomOf 9 = .ok (.iconst 0, 1) := by decide +kernel
theorem dX7_roomOf_10 : decode cX7_roomOf 10 = .ok (.iconst 2, 1) := by decide +kernel
theorem dX7_roomOf_11 : decode cX7_roomOf 11 = .ok (.invokestatic 32, 3) := by decide +kernel
theorem dX7_roomOf_14 : decode cX7_roomOf 14 = .ok (.ifCond .ne 6, 3) := by decide +kernel
theorem dX7_roomOf_17 : decode cX7_roomOf 17 = .ok (.ldc 109, 2) := by decide +kernel
theorem dX7_roomOf_19 : decode cX7_roomOf 19 = .ok (.ireturn, 1) := by decide +kernel
theorem dX7_roomOf_20 : decode cX7_roomOf 20 = .ok (.iconst 0, 1) := by decide +kernel
theorem dX7_roomOf_21 : decode cX7_roomOf 21 = .ok (.istore_n 3, 1) := by decide +kernel
theorem dX7_roomOf_22 : decode cX7_roomOf 22 = .ok (.bipush 99, 2) := by decide +kernel
theorem dX7_roomOf_24 : decode cX7_roomOf 24 = .ok (.istore 4, 2) := by decide +kernel
theorem dX7_roomOf_26 : decode cX7_roomOf 26 = .ok (.iconst 0, 1) := by decide +kernel
theorem dX7_roomOf_27 : decode cX7_roomOf 27 = .ok (.istore 5, 2) := by decide +kernel
theorem dX7_roomOf_29 : decode cX7_roomOf 29 = .ok (.iload 5, 2) := by decide +kernel
theorem dX7_roomOf_31 : decode cX7_roomOf 31 = .ok (.aload_n 0, 1) := by decide +kernel
theorem dX7_roomOf_32 : decode cX7_roomOf 32 = .ok (.getfield 7, 3) := by decide +kernel
theorem dX7_roomOf_35 : decode cX7_roomOf 35 = .ok (.iconst 0, 1) := by decide +kernel
theorem dX7_roomOf_36 : decode cX7_roomOf 36 = .ok (.iaload, 1) := by decide +kernel
theorem dX7_roomOf_37 : decode cX7_roomOf 37 = .ok (.if_icmp .ge 78, 3) := by decide +kernel
theorem dX7_roomOf_40 : decode cX7_roomOf 40 = .ok (.aload_n 0, 1) := by decide +kernel
theorem dX7_roomOf_41 : decode cX7_roomOf 41 = .ok (.getfield 7, 3) := by decide +kernel
theorem dX7_roomOf_44 : decode cX7_roomOf 44 = .ok (.iload 5, 2) := by decide +kernel
theorem dX7_roomOf_46 : decode cX7_roomOf 46 = .ok (.bipush 7, 2) := by decide +kernel
theorem dX7_roomOf_48 : decode cX7_roomOf 48 = .ok (.invokestatic 40, 3) := by decide +kernel
theorem dX7_roomOf_51 : decode cX7_roomOf 51 = .ok (.iaload, 1) := by decide +kernel
theorem dX7_roomOf_52 : decode cX7_roomOf 52 = .ok (.iload_n 1, 1) := by decide +kernel
theorem dX7_roomOf_53 : decode cX7_roomOf 53 = .ok (.if_icmp .ne 56, 3) := by decide +kernel
theorem dX7_roomOf_56 : decode cX7_roomOf 56 = .ok (.iload_n 3, 1) := by decide +kernel
theorem dX7_roomOf_57 : decode cX7_roomOf 57 = .ok (.iconst 1, 1) := by decide +kernel
theorem dX7_roomOf_58 : decode cX7_roomOf 58 = .ok (.iload 5, 2) := by decide +kernel
theorem dX7_roomOf_60 : decode cX7_roomOf 60 = .ok (.ishl, 1) := by decide +kernel
theorem dX7_roomOf_61 : decode cX7_roomOf 61 = .ok (.ior, 1) := by decide +kernel
theorem dX7_roomOf_62 : decode cX7_roomOf 62 = .ok (.istore_n 3, 1) := by decide +kernel
theorem dX7_roomOf_63 : decode cX7_roomOf 63 = .ok (.aload_n 0, 1) := by decide +kernel
theorem dX7_roomOf_64 : decode cX7_roomOf 64 = .ok (.getfield 7, 3) := by decide +kernel
theorem dX7_roomOf_67 : decode cX7_roomOf 67 = .ok (.sipush 330, 3) := by decide +kernel
theorem dX7_roomOf_70 : decode cX7_roomOf 70 = .ok (.iload_n 1, 1) := by decide +kernel
theorem dX7_roomOf_71 : decode cX7_roomOf 71 = .ok (.iadd, 1) := by decide +kernel
theorem dX7_roomOf_72 : decode cX7_roomOf 72 = .ok (.iaload, 1) := by decide +kernel
theorem dX7_roomOf_73 : decode cX7_roomOf 73 = .ok (.aload_n 0, 1) := by decide +kernel
theorem dX7_roomOf_74 : decode cX7_roomOf 74 = .ok (.iload 5, 2) := by decide +kernel
theorem dX7_roomOf_76 : decode cX7_roomOf 76 = .ok (.invokevirtual 47, 3) := by decide +kernel
theorem dX7_roomOf_79 : decode cX7_roomOf 79 = .ok (.isub, 1) := by decide +kernel
theorem dX7_roomOf_80 : decode cX7_roomOf 80 = .ok (.iload 4, 2) := by decide +kernel
theorem dX7_roomOf_82 : decode cX7_roomOf 82 = .ok (.if_icmp .ge 23, 3) := by decide +kernel
theorem dX7_roomOf_85 : decode cX7_roomOf 85 = .ok (.aload_n 0, 1) := by decide +kernel
theorem dX7_roomOf_86 : decode cX7_roomOf 86 = .ok (.getfield 7, 3) := by decide +kernel
theorem dX7_roomOf_89 : decode cX7_roomOf 89 = .ok (.sipush 330, 3) := by decide +kernel
theorem dX7_roomOf_92 : decode cX7_roomOf 92 = .ok (.iload_n 1, 1) := by decide +kernel
theorem dX7_roomOf_93 : decode cX7_roomOf 93 = .ok (.iadd, 1) := by decide +kernel
theorem dX7_roomOf_94 : decode cX7_roomOf 94 = .ok (.iaload, 1) := by decide +kernel
theorem dX7_roomOf_95 : decode cX7_roomOf 95 = .ok (.aload_n 0, 1) := by decide +kernel
theorem dX7_roomOf_96 : decode cX7_roomOf 96 = .ok (.iload 5, 2) := by decide +kernel
theorem dX7_roomOf_98 : decode cX7_roomOf 98 = .ok (.invokevirtual 47, 3) := by decide +kernel
theorem dX7_roomOf_101 : decode cX7_roomOf 101 = .ok (.isub, 1) := by decide +kernel
theorem dX7_roomOf_102 : decode cX7_roomOf 102 = .ok (.goto 5, 3) := by decide +kernel
theorem dX7_roomOf_105 : decode cX7_roomOf 105 = .ok (.iload 4, 2) := by decide +kernel
theorem dX7_roomOf_107 : decode cX7_roomOf 107 = .ok (.istore 4, 2) := by decide +kernel
theorem dX7_roomOf_109 : decode cX7_roomOf 109 = .ok (.iinc 5 1, 3) := by decide +kernel
theorem dX7_roomOf_112 : decode cX7_roomOf 112 = .ok (.goto (-83), 3) := by decide +kernel
theorem dX7_roomOf_115 : decode cX7_roomOf 115 = .ok (.iload_n 2, 1) := by decide +kernel
theorem dX7_roomOf_116 : decode cX7_roomOf 116 = .ok (.ifCond .ne 16, 3) := by decide +kernel
theorem dX7_roomOf_119 : decode cX7_roomOf 119 = .ok (.aload_n 0, 1) := by decide +kernel
theorem dX7_roomOf_120 : decode cX7_roomOf 120 = .ok (.getfield 7, 3) := by decide +kernel
theorem dX7_roomOf_123 : decode cX7_roomOf 123 = .ok (.sipush 330, 3) := by decide +kernel
theorem dX7_roomOf_126 : decode cX7_roomOf 126 = .ok (.iload_n 1, 1) := by decide +kernel
theorem dX7_roomOf_127 : decode cX7_roomOf 127 = .ok (.iadd, 1) := by decide +kernel
theorem dX7_roomOf_128 : decode cX7_roomOf 128 = .ok (.iaload, 1) := by decide +kernel
theorem dX7_roomOf_129 : decode cX7_roomOf 129 = .ok (.goto 23, 3) := by decide +kernel
theorem dX7_roomOf_132 : decode cX7_roomOf 132 = .ok (.iload_n 2, 1) := by decide +kernel
theorem dX7_roomOf_133 : decode cX7_roomOf 133 = .ok (.iconst 1, 1) := by decide +kernel
theorem dX7_roomOf_134 : decode cX7_roomOf 134 = .ok (.if_icmp .ne 7, 3) := by decide +kernel
theorem dX7_roomOf_137 : decode cX7_roomOf 137 = .ok (.iload_n 3, 1) := by decide +kernel
theorem dX7_roomOf_138 : decode cX7_roomOf 138 = .ok (.goto 14, 3) := by decide +kernel
theorem dX7_roomOf_141 : decode cX7_roomOf 141 = .ok (.iload_n 3, 1) := by decide +kernel
theorem dX7_roomOf_142 : decode cX7_roomOf 142 = .ok (.ifCond .ne 8, 3) := by decide +kernel
theorem dX7_roomOf_145 : decode cX7_roomOf 145 = .ok (.ldc 157, 2) := by decide +kernel
theorem dX7_roomOf_147 : decode cX7_roomOf 147 = .ok (.goto 5, 3) := by decide +kernel
theorem dX7_roomOf_150 : decode cX7_roomOf 150 = .ok (.iload 4, 2) := by decide +kernel
theorem dX7_roomOf_152 : decode cX7_roomOf 152 = .ok (.ireturn, 1) := by decide +kernel
theorem dX7_peopleInClasses_0 : decode cX7_peopleInClasses 0 = .ok (.iconst 0, 1) := by decide +kernel
theorem dX7_peopleInClasses_1 : decode cX7_peopleInClasses 1 = .ok (.istore_n 1, 1) := by decide +kernel
theorem dX7_peopleInClasses_2 : decode cX7_peopleInClasses 2 = .ok (.iconst 0, 1) := by decide +kernel
theorem dX7_peopleInClasses_3 : decode cX7_peopleInClasses 3 = .ok (.istore_n 2, 1) := by decide +kernel
theorem dX7_peopleInClasses_4 : decode cX7_peopleInClasses 4 = .ok (.iload_n 2, 1) := by decide +kernel
theorem dX7_peopleInClasses_5 : decode cX7_peopleInClasses 5 = .ok (.aload_n 0, 1) := by decide +kernel
theorem dX7_peopleInClasses_6 : decode cX7_peopleInClasses 6 = .ok (.getfield 7, 3) := by decide +kernel
theorem dX7_peopleInClasses_9 : decode cX7_peopleInClasses 9 = .ok (.iconst 0, 1) := by decide +kernel
theorem dX7_peopleInClasses_10 : decode cX7_peopleInClasses 10 = .ok (.iaload, 1) := by decide +kernel
theorem dX7_peopleInClasses_11 : decode cX7_peopleInClasses 11 = .ok (.if_icmp .ge 17, 3) := by decide +kernel
theorem dX7_peopleInClasses_14 : decode cX7_peopleInClasses 14 = .ok (.iload_n 1, 1) := by decide +kernel
theorem dX7_peopleInClasses_15 : decode cX7_peopleInClasses 15 = .ok (.aload_n 0, 1) := by decide +kernel
theorem dX7_peopleInClasses_16 : decode cX7_peopleInClasses 16 = .ok (.iload_n 2, 1) := by decide +kernel
theorem dX7_peopleInClasses_17 : decode cX7_peopleInClasses 17 = .ok (.invokevirtual 47, 3) := by decide +kernel
theorem dX7_peopleInClasses_20 : decode cX7_peopleInClasses 20 = .ok (.iadd, 1) := by decide +kernel
theorem dX7_peopleInClasses_21 : decode cX7_peopleInClasses 21 = .ok (.istore_n 1, 1) := by decide +kernel
theorem dX7_peopleInClasses_22 : decode cX7_peopleInClasses 22 = .ok (.iinc 2 1, 3) := by decide +kernel
theorem dX7_peopleInClasses_25 : decode cX7_peopleInClasses 25 = .ok (.goto (-21), 3) := by decide +kernel
theorem dX7_peopleInClasses_28 : decode cX7_peopleInClasses 28 = .ok (.iload_n 1, 1) := by decide +kernel
theorem dX7_peopleInClasses_29 : decode cX7_peopleInClasses 29 = .ok (.ireturn, 1) := by decide +kernel
theorem dX7_ifClose_0 : decode cX7_ifClose 0 = .ok (.iload_n 1, 1) := by decide +kernel
theorem dX7_ifClose_1 : decode cX7_ifClose 1 = .ok (.iconst 0, 1) := by decide +kernel
theorem dX7_ifClose_2 : decode cX7_ifClose 2 = .ok (.iconst 5, 1) := by decide +kernel
theorem dX7_ifClose_3 : decode cX7_ifClose 3 = .ok (.invokestatic 32, 3) := by decide +kernel
theorem dX7_ifClose_6 : decode cX7_ifClose 6 = .ok (.ifCond .ne 6, 3) := by decide +kernel
theorem dX7_ifClose_9 : decode cX7_ifClose 9 = .ok (.ldc 109, 2) := by decide +kernel
theorem dX7_ifClose_11 : decode cX7_ifClose 11 = .ok (.ireturn, 1) := by decide +kernel
theorem dX7_ifClose_12 : decode cX7_ifClose 12 = .ok (.aload_n 0, 1) := by decide +kernel
theorem dX7_ifClose_13 : decode cX7_ifClose 13 = .ok (.getfield 7, 3) := by decide +kernel
theorem dX7_ifClose_16 : decode cX7_ifClose 16 = .ok (.sipush 547, 3) := by decide +kernel
theorem dX7_ifClose_19 : decode cX7_ifClose 19 = .ok (.iaload, 1) := by decide +kernel
theorem dX7_ifClose_20 : decode cX7_ifClose 20 = .ok (.iconst 1, 1) := by decide +kernel
theorem dX7_ifClose_21 : decode cX7_ifClose 21 = .ok (.if_icmp .ne 6, 3) := by decide +kernel
theorem dX7_ifClose_24 : decode cX7_ifClose 24 = .ok (.ldc 110, 2) := by decide +kernel
theorem dX7_ifClose_26 : decode cX7_ifClose 26 = .ok (.ireturn, 1) := by decide +kernel
theorem dX7_ifClose_27 : decode cX7_ifClose 27 = .ok (.aload_n 0, 1) := by decide +kernel
theorem dX7_ifClose_28 : decode cX7_ifClose 28 = .ok (.invokevirtual 131, 3) := by decide +kernel
theorem dX7_ifClose_31 : decode cX7_ifClose 31 = .ok (.aload_n 0, 1) := by decide +kernel
theorem dX7_ifClose_32 : decode cX7_ifClose 32 = .ok (.invokevirtual 119, 3) := by decide +kernel
theorem dX7_ifClose_35 : decode cX7_ifClose 35 = .ok (.iload_n 1, 1) := by decide +kernel
theorem dX7_ifClose_36 : decode cX7_ifClose 36 = .ok (.iconst 3, 1) := by decide +kernel
theorem dX7_ifClose_37 : decode cX7_ifClose 37 = .ok (.if_icmp .ge 13, 3) := by decide +kernel
theorem dX7_ifClose_40 : decode cX7_ifClose 40 = .ok (.aload_n 0, 1) := by decide +kernel
theorem dX7_ifClose_41 : decode cX7_ifClose 41 = .ok (.iconst 1, 1) := by decide +kernel
theorem dX7_ifClose_42 : decode cX7_ifClose 42 = .ok (.iload_n 1, 1) := by decide +kernel
theorem dX7_ifClose_43 : decode cX7_ifClose 43 = .ok (.iadd, 1) := by decide +kernel
theorem dX7_ifClose_44 : decode cX7_ifClose 44 = .ok (.invokevirtual 122, 3) := by decide +kernel
theorem dX7_ifClose_47 : decode cX7_ifClose 47 = .ok (.goto 57, 3) := by decide +kernel
theorem dX7_ifClose_50 : decode cX7_ifClose 50 = .ok (.iload_n 1, 1) := by decide +kernel
theorem dX7_ifClose_51 : decode cX7_ifClose 51 = .ok (.iconst 3, 1) := by decide +kernel
theorem dX7_ifClose_52 : decode cX7_ifClose 52 = .ok (.if_icmp .ne 10, 3) := by decide +kernel
theorem dX7_ifClose_55 : decode cX7_ifClose 55 = .ok (.aload_n 0, 1) := by decide +kernel
theorem dX7_ifClose_56 : decode cX7_ifClose 56 = .ok (.invokevirtual 167, 3) := by decide +kernel
theorem dX7_ifClose_59 : decode cX7_ifClose 59 = .ok (.goto 45, 3) := by decide +kernel
theorem dX7_ifClose_62 : decode cX7_ifClose 62 = .ok (.iload_n 1, 1) := by decide +kernel
theorem dX7_ifClose_63 : decode cX7_ifClose 63 = .ok (.iconst 4, 1) := by decide +kernel
theorem dX7_ifClose_64 : decode cX7_ifClose 64 = .ok (.if_icmp .ne 23, 3) := by decide +kernel
theorem dX7_ifClose_67 : decode cX7_ifClose 67 = .ok (.aload_n 0, 1) := by decide +kernel
theorem dX7_ifClose_68 : decode cX7_ifClose 68 = .ok (.getfield 7, 3) := by decide +kernel
theorem dX7_ifClose_71 : decode cX7_ifClose 71 = .ok (.sipush 549, 3) := by decide +kernel
theorem dX7_ifClose_74 : decode cX7_ifClose 74 = .ok (.iaload, 1) := by decide +kernel
theorem dX7_ifClose_75 : decode cX7_ifClose 75 = .ok (.aload_n 0, 1) := by decide +kernel
theorem dX7_ifClose_76 : decode cX7_ifClose 76 = .ok (.getfield 13, 3) := by decide +kernel
theorem dX7_ifClose_79 : decode cX7_ifClose 79 = .ok (.sipush 549, 3) := by decide +kernel
theorem dX7_ifClose_82 : decode cX7_ifClose 82 = .ok (.iaload, 1) := by decide +kernel
theorem dX7_ifClose_83 : decode cX7_ifClose 83 = .ok (.isub, 1) := by decide +kernel
theorem dX7_ifClose_84 : decode cX7_ifClose 84 = .ok (.goto 20, 3) := by decide +kernel
theorem dX7_ifClose_87 : decode cX7_ifClose 87 = .ok (.aload_n 0, 1) := by decide +kernel
theorem dX7_ifClose_88 : decode cX7_ifClose 88 = .ok (.getfield 7, 3) := by decide +kernel
theorem dX7_ifClose_91 : decode cX7_ifClose 91 = .ok (.sipush 548, 3) := by decide +kernel
theorem dX7_ifClose_94 : decode cX7_ifClose 94 = .ok (.iaload, 1) := by decide +kernel
theorem dX7_ifClose_95 : decode cX7_ifClose 95 = .ok (.aload_n 0, 1) := by decide +kernel
theorem dX7_ifClose_96 : decode cX7_ifClose 96 = .ok (.getfield 13, 3) := by decide +kernel
theorem dX7_ifClose_99 : decode cX7_ifClose 99 = .ok (.sipush 548, 3) := by decide +kernel
theorem dX7_ifClose_102 : decode cX7_ifClose 102 = .ok (.iaload, 1) := by decide +kernel
theorem dX7_ifClose_103 : decode cX7_ifClose 103 = .ok (.isub, 1) := by decide +kernel
theorem dX7_ifClose_104 : decode cX7_ifClose 104 = .ok (.istore_n 2, 1) := by decide +kernel
theorem dX7_ifClose_105 : decode cX7_ifClose 105 = .ok (.aload_n 0, 1) := by decide +kernel
theorem dX7_ifClose_106 : decode cX7_ifClose 106 = .ok (.invokevirtual 25, 3) := by decide +kernel
theorem dX7_ifClose_109 : decode cX7_ifClose 109 = .ok (.iload_n 2, 1) := by decide +kernel
theorem dX7_ifClose_110 : decode cX7_ifClose 110 = .ok (.ireturn, 1) := by decide +kernel
theorem dX7_beside_0 : decode cX7_beside 0 = .ok (.aload_n 0, 1) := by decide +kernel
theorem dX7_beside_1 : decode cX7_beside 1 = .ok (.iload_n 1, 1) := by decide +kernel
theorem dX7_beside_2 : decode cX7_beside 2 = .ok (.invokevirtual 103, 3) := by decide +kernel
theorem dX7_beside_5 : decode cX7_beside 5 = .ok (.ifCond .ne 6, 3) := by decide +kernel
theorem dX7_beside_8 : decode cX7_beside 8 = .ok (.ldc 109, 2) := by decide +kernel
theorem dX7_beside_10 : decode cX7_beside 10 = .ok (.ireturn, 1) := by decide +kernel
theorem dX7_beside_11 : decode cX7_beside 11 = .ok (.aload_n 0, 1) := by decide +kernel
theorem dX7_beside_12 : decode cX7_beside 12 = .ok (.iload_n 1, 1) := by decide +kernel
theorem dX7_beside_13 : decode cX7_beside 13 = .ok (.invokevirtual 43, 3) := by decide +kernel
theorem dX7_beside_16 : decode cX7_beside 16 = .ok (.ifCond .eq 14, 3) := by decide +kernel
theorem dX7_beside_19 : decode cX7_beside 19 = .ok (.aload_n 0, 1) := by decide +kernel
theorem dX7_beside_20 : decode cX7_beside 20 = .ok (.iload_n 1, 1) := by decide +kernel
theorem dX7_beside_21 : decode cX7_beside 21 = .ok (.invokevirtual 85, 3) := by decide +kernel
theorem dX7_beside_24 : decode cX7_beside 24 = .ok (.invokestatic 161, 3) := by decide +kernel
theorem dX7_beside_27 : decode cX7_beside 27 = .ok (.goto 5, 3) := by decide +kernel
theorem dX7_beside_30 : decode cX7_beside 30 = .ok (.ldc 110, 2) := by decide +kernel
theorem dX7_beside_32 : decode cX7_beside 32 = .ok (.ireturn, 1) := by decide +kernel
theorem dX7_ifJoin_0 : decode cX7_ifJoin 0 = .ok (.aload_n 0, 1) := by decide +kernel
theorem dX7_ifJoin_1 : decode cX7_ifJoin 1 = .ok (.iload_n 1, 1) := by decide +kernel
theorem dX7_ifJoin_2 : decode cX7_ifJoin 2 = .ok (.invokevirtual 103, 3) := by decide +kernel
theorem dX7_ifJoin_5 : decode cX7_ifJoin 5 = .ok (.ifCond .ne 6, 3) := by decide +kernel
theorem dX7_ifJoin_8 : decode cX7_ifJoin 8 = .ok (.ldc 109, 2) := by decide +kernel
theorem dX7_ifJoin_10 : decode cX7_ifJoin 10 = .ok (.ireturn, 1) := by decide +kernel
theorem dX7_ifJoin_11 : decode cX7_ifJoin 11 = .ok (.aload_n 0, 1) := by decide +kernel
theorem dX7_ifJoin_12 : decode cX7_ifJoin 12 = .ok (.getfield 7, 3) := by decide +kernel
theorem dX7_ifJoin_15 : decode cX7_ifJoin 15 = .ok (.sipush 547, 3) := by decide +kernel
theorem dX7_ifJoin_18 : decode cX7_ifJoin 18 = .ok (.iaload, 1) := by decide +kernel
theorem dX7_ifJoin_19 : decode cX7_ifJoin 19 = .ok (.iconst 1, 1) := by decide +kernel
theorem dX7_ifJoin_20 : decode cX7_ifJoin 20 = .ok (.if_icmp .ne 6, 3) := by decide +kernel
theorem dX7_ifJoin_23 : decode cX7_ifJoin 23 = .ok (.ldc 110, 2) := by decide +kernel
theorem dX7_ifJoin_25 : decode cX7_ifJoin 25 = .ok (.ireturn, 1) := by decide +kernel
theorem dX7_ifJoin_26 : decode cX7_ifJoin 26 = .ok (.aload_n 0, 1) := by decide +kernel
theorem dX7_ifJoin_27 : decode cX7_ifJoin 27 = .ok (.getfield 7, 3) := by decide +kernel
theorem dX7_ifJoin_30 : decode cX7_ifJoin 30 = .ok (.sipush 335, 3) := by decide +kernel
theorem dX7_ifJoin_33 : decode cX7_ifJoin 33 = .ok (.iaload, 1) := by decide +kernel
theorem dX7_ifJoin_34 : decode cX7_ifJoin 34 = .ok (.bipush 30, 2) := by decide +kernel
theorem dX7_ifJoin_36 : decode cX7_ifJoin 36 = .ok (.if_icmp .ne 8, 3) := by decide +kernel
theorem dX7_ifJoin_39 : decode cX7_ifJoin 39 = .ok (.ldc 111, 2) := by decide +kernel
theorem dX7_ifJoin_41 : decode cX7_ifJoin 41 = .ok (.goto 16, 3) := by decide +kernel
theorem dX7_ifJoin_44 : decode cX7_ifJoin 44 = .ok (.aload_n 0, 1) := by decide +kernel
theorem dX7_ifJoin_45 : decode cX7_ifJoin 45 = .ok (.iload_n 1, 1) := by decide +kernel
theorem dX7_ifJoin_46 : decode cX7_ifJoin 46 = .ok (.invokevirtual 60, 3) := by decide +kernel
theorem dX7_ifJoin_49 : decode cX7_ifJoin 49 = .ok (.ifCond .eq 7, 3) := by decide +kernel
theorem dX7_ifJoin_52 : decode cX7_ifJoin 52 = .ok (.iconst 0, 1) := by decide +kernel
theorem dX7_ifJoin_53 : decode cX7_ifJoin 53 = .ok (.goto 4, 3) := by decide +kernel
theorem dX7_ifJoin_56 : decode cX7_ifJoin 56 = .ok (.iconst 4, 1) := by decide +kernel
theorem dX7_ifJoin_57 : decode cX7_ifJoin 57 = .ok (.ireturn, 1) := by decide +kernel
theorem dX7_bitsOf_0 : decode cX7_bitsOf 0 = .ok (.fload_n 0, 1) := by decide +kernel
theorem dX7_bitsOf_1 : decode cX7_bitsOf 1 = .ok (.fconst 0, 1) := by decide +kernel
theorem dX7_bitsOf_2 : decode cX7_bitsOf 2 = .ok (.fcmp .l, 1) := by decide +kernel
theorem dX7_bitsOf_3 : decode cX7_bitsOf 3 = .ok (.ifCond .ne 5, 3) := by decide +kernel
theorem dX7_bitsOf_6 : decode cX7_bitsOf 6 = .ok (.iconst 0, 1) := by decide +kernel
theorem dX7_bitsOf_7 : decode cX7_bitsOf 7 = .ok (.ireturn, 1) := by decide +kernel
theorem dX7_bitsOf_8 : decode cX7_bitsOf 8 = .ok (.bipush 127, 2) := by decide +kernel
theorem dX7_bitsOf_10 : decode cX7_bitsOf 10 = .ok (.istore_n 1, 1) := by decide +kernel
theorem dX7_bitsOf_11 : decode cX7_bitsOf 11 = .ok (.fload_n 0, 1) := by decide +kernel
theorem dX7_bitsOf_12 : decode cX7_bitsOf 12 = .ok (.fstore_n 2, 1) := by decide +kernel
theorem dX7_bitsOf_13 : decode cX7_bitsOf 13 = .ok (.fload_n 2, 1) := by decide +kernel
theorem dX7_bitsOf_14 : decode cX7_bitsOf 14 = .ok (.fconst 1, 1) := by decide +kernel
theorem dX7_bitsOf_15 : decode cX7_bitsOf 15 = .ok (.fcmp .g, 1) := by decide +kernel
theorem dX7_bitsOf_16 : decode cX7_bitsOf 16 = .ok (.ifCond .ge 13, 3) := by decide +kernel
theorem dX7_bitsOf_19 : decode cX7_bitsOf 19 = .ok (.fload_n 2, 1) := by decide +kernel
theorem dX7_bitsOf_20 : decode cX7_bitsOf 20 = .ok (.fconst 2, 1) := by decide +kernel
theorem dX7_bitsOf_21 : decode cX7_bitsOf 21 = .ok (.fmul, 1) := by decide +kernel
theorem dX7_bitsOf_22 : decode cX7_bitsOf 22 = .ok (.fstore_n 2, 1) := by decide +kernel
theorem dX7_bitsOf_23 : decode cX7_bitsOf 23 = .ok (.iinc 1 (-1), 3) := by decide +kernel
theorem dX7_bitsOf_26 : decode cX7_bitsOf 26 = .ok (.goto (-13), 3) := by decide +kernel
theorem dX7_bitsOf_29 : decode cX7_bitsOf 29 = .ok (.fload_n 2, 1) := by decide +kernel
theorem dX7_bitsOf_30 : decode cX7_bitsOf 30 = .ok (.fconst 2, 1) := by decide +kernel
theorem dX7_bitsOf_31 : decode cX7_bitsOf 31 = .ok (.fcmp .l, 1) := by decide +kernel
theorem dX7_bitsOf_32 : decode cX7_bitsOf 32 = .ok (.ifCond .lt 13, 3) := by decide +kernel
theorem dX7_bitsOf_35 : decode cX7_bitsOf 35 = .ok (.fload_n 2, 1) := by decide +kernel
theorem dX7_bitsOf_36 : decode cX7_bitsOf 36 = .ok (.fconst 2, 1) := by decide +kernel
theorem dX7_bitsOf_37 : decode cX7_bitsOf 37 = .ok (.fdiv, 1) := by decide +kernel
theorem dX7_bitsOf_38 : decode cX7_bitsOf 38 = .ok (.fstore_n 2, 1) := by decide +kernel
theorem dX7_bitsOf_39 : decode cX7_bitsOf 39 = .ok (.iinc 1 1, 3) := by decide +kernel
theorem dX7_bitsOf_42 : decode cX7_bitsOf 42 = .ok (.goto (-13), 3) := by decide +kernel
theorem dX7_bitsOf_45 : decode cX7_bitsOf 45 = .ok (.iload_n 1, 1) := by decide +kernel
theorem dX7_bitsOf_46 : decode cX7_bitsOf 46 = .ok (.ldc 170, 2) := by decide +kernel
theorem dX7_bitsOf_48 : decode cX7_bitsOf 48 = .ok (.imul, 1) := by decide +kernel
theorem dX7_bitsOf_49 : decode cX7_bitsOf 49 = .ok (.fload_n 2, 1) := by decide +kernel
theorem dX7_bitsOf_50 : decode cX7_bitsOf 50 = .ok (.fconst 1, 1) := by decide +kernel
theorem dX7_bitsOf_51 : decode cX7_bitsOf 51 = .ok (.fsub, 1) := by decide +kernel
theorem dX7_bitsOf_52 : decode cX7_bitsOf 52 = .ok (.ldc 171, 2) := by decide +kernel
theorem dX7_bitsOf_54 : decode cX7_bitsOf 54 = .ok (.fmul, 1) := by decide +kernel
theorem dX7_bitsOf_55 : decode cX7_bitsOf 55 = .ok (.f2i, 1) := by decide +kernel
theorem dX7_bitsOf_56 : decode cX7_bitsOf 56 = .ok (.iadd, 1) := by decide +kernel
theorem dX7_bitsOf_57 : decode cX7_bitsOf 57 = .ok (.ireturn, 1) := by decide +kernel
theorem dX7_here_0 : decode cX7_here 0 = .ok (.iconst 0, 1) := by decide +kernel
theorem dX7_here_1 : decode cX7_here 1 = .ok (.istore_n 1, 1) := by decide +kernel
theorem dX7_here_2 : decode cX7_here 2 = .ok (.iconst 0, 1) := by decide +kernel
theorem dX7_here_3 : decode cX7_here 3 = .ok (.istore_n 2, 1) := by decide +kernel
theorem dX7_here_4 : decode cX7_here 4 = .ok (.iload_n 2, 1) := by decide +kernel
theorem dX7_here_5 : decode cX7_here 5 = .ok (.aload_n 0, 1) := by decide +kernel
theorem dX7_here_6 : decode cX7_here 6 = .ok (.getfield 7, 3) := by decide +kernel
theorem dX7_here_9 : decode cX7_here 9 = .ok (.sipush 335, 3) := by decide +kernel
theorem dX7_here_12 : decode cX7_here 12 = .ok (.iaload, 1) := by decide +kernel
theorem dX7_here_13 : decode cX7_here 13 = .ok (.if_icmp .ge 22, 3) := by decide +kernel
theorem dX7_here_16 : decode cX7_here 16 = .ok (.iload_n 1, 1) := by decide +kernel
theorem dX7_here_17 : decode cX7_here 17 = .ok (.aload_n 0, 1) := by decide +kernel
theorem dX7_here_18 : decode cX7_here 18 = .ok (.getfield 7, 3) := by decide +kernel
theorem dX7_here_21 : decode cX7_here 21 = .ok (.iload_n 2, 1) := by decide +kernel
theorem dX7_here_22 : decode cX7_here 22 = .ok (.iconst 0, 1) := by decide +kernel
theorem dX7_here_23 : decode cX7_here 23 = .ok (.invokestatic 36, 3) := by decide +kernel
theorem dX7_here_26 : decode cX7_here 26 = .ok (.iaload, 1) := by decide +kernel
theorem dX7_here_27 : decode cX7_here 27 = .ok (.iadd, 1) := by decide +kernel
theorem dX7_here_28 : decode cX7_here 28 = .ok (.istore_n 1, 1) := by decide +kernel
theorem dX7_here_29 : decode cX7_here 29 = .ok (.iinc 2 1, 3) := by decide +kernel
theorem dX7_here_32 : decode cX7_here 32 = .ok (.goto (-28), 3) := by decide +kernel
theorem dX7_here_35 : decode cX7_here 35 = .ok (.iload_n 1, 1) := by decide +kernel
theorem dX7_here_36 : decode cX7_here 36 = .ok (.ireturn, 1) := by decide +kernel
theorem dX7_mean_0 : decode cX7_mean 0 = .ok (.iconst 0, 1) := by decide +kernel
theorem dX7_mean_1 : decode cX7_mean 1 = .ok (.istore_n 1, 1) := by decide +kernel
theorem dX7_mean_2 : decode cX7_mean 2 = .ok (.iconst 0, 1) := by decide +kernel
theorem dX7_mean_3 : decode cX7_mean 3 = .ok (.istore_n 2, 1) := by decide +kernel
theorem dX7_mean_4 : decode cX7_mean 4 = .ok (.iload_n 2, 1) := by decide +kernel
theorem dX7_mean_5 : decode cX7_mean 5 = .ok (.aload_n 0, 1) := by decide +kernel
theorem dX7_mean_6 : decode cX7_mean 6 = .ok (.getfield 7, 3) := by decide +kernel
theorem dX7_mean_9 : decode cX7_mean 9 = .ok (.sipush 335, 3) := by decide +kernel
theorem dX7_mean_12 : decode cX7_mean 12 = .ok (.iaload, 1) := by decide +kernel
theorem dX7_mean_13 : decode cX7_mean 13 = .ok (.if_icmp .ge 29, 3) := by decide +kernel
theorem dX7_mean_16 : decode cX7_mean 16 = .ok (.iload_n 1, 1) := by decide +kernel
theorem dX7_mean_17 : decode cX7_mean 17 = .ok (.aload_n 0, 1) := by decide +kernel
theorem dX7_mean_18 : decode cX7_mean 18 = .ok (.iload_n 2, 1) := by decide +kernel
theorem dX7_mean_19 : decode cX7_mean 19 = .ok (.invokevirtual 54, 3) := by decide +kernel
theorem dX7_mean_22 : decode cX7_mean 22 = .ok (.ifCond .eq 11, 3) := by decide +kernel
theorem dX7_mean_25 : decode cX7_mean 25 = .ok (.aload_n 0, 1) := by decide +kernel
theorem dX7_mean_26 : decode cX7_mean 26 = .ok (.iload_n 2, 1) := by decide +kernel
theorem dX7_mean_27 : decode cX7_mean 27 = .ok (.invokevirtual 57, 3) := by decide +kernel
theorem dX7_mean_30 : decode cX7_mean 30 = .ok (.goto 4, 3) := by decide +kernel
theorem dX7_mean_33 : decode cX7_mean 33 = .ok (.iconst 0, 1) := by decide +kernel
theorem dX7_mean_34 : decode cX7_mean 34 = .ok (.iadd, 1) := by decide +kernel
theorem dX7_mean_35 : decode cX7_mean 35 = .ok (.istore_n 1, 1) := by decide +kernel
theorem dX7_mean_36 : decode cX7_mean 36 = .ok (.iinc 2 1, 3) := by decide +kernel
theorem dX7_mean_39 : decode cX7_mean 39 = .ok (.goto (-35), 3) := by decide +kernel
theorem dX7_mean_42 : decode cX7_mean 42 = .ok (.aload_n 0, 1) := by decide +kernel
theorem dX7_mean_43 : decode cX7_mean 43 = .ok (.invokevirtual 172, 3) := by decide +kernel
theorem dX7_mean_46 : decode cX7_mean 46 = .ok (.ifCond .ne 8, 3) := by decide +kernel
theorem dX7_mean_49 : decode cX7_mean 49 = .ok (.ldc 157, 2) := by decide +kernel
theorem dX7_mean_51 : decode cX7_mean 51 = .ok (.goto 14, 3) := by decide +kernel
theorem dX7_mean_54 : decode cX7_mean 54 = .ok (.iload_n 1, 1) := by decide +kernel
theorem dX7_mean_55 : decode cX7_mean 55 = .ok (.i2f, 1) := by decide +kernel
theorem dX7_mean_56 : decode cX7_mean 56 = .ok (.aload_n 0, 1) := by decide +kernel
theorem dX7_mean_57 : decode cX7_mean 57 = .ok (.invokevirtual 172, 3) := by decide +kernel
theorem dX7_mean_60 : decode cX7_mean 60 = .ok (.i2f, 1) := by decide +kernel
theorem dX7_mean_61 : decode cX7_mean 61 = .ok (.fdiv, 1) := by decide +kernel
theorem dX7_mean_62 : decode cX7_mean 62 = .ok (.invokestatic 175, 3) := by decide +kernel
theorem dX7_mean_65 : decode cX7_mean 65 = .ok (.ireturn, 1) := by decide +kernel
theorem dX7_withFree_0 : decode cX7_withFree 0 = .ok (.iconst 0, 1) := by decide +kernel
theorem dX7_withFree_1 : decode cX7_withFree 1 = .ok (.istore_n 1, 1) := by decide +kernel
theorem dX7_withFree_2 : decode cX7_withFree 2 = .ok (.iconst 0, 1) := by decide +kernel
theorem dX7_withFree_3 : decode cX7_withFree 3 = .ok (.istore_n 2, 1) := by decide +kernel
theorem dX7_withFree_4 : decode cX7_withFree 4 = .ok (.iload_n 2, 1) := by decide +kernel
theorem dX7_withFree_5 : decode cX7_withFree 5 = .ok (.aload_n 0, 1) := by decide +kernel
theorem dX7_withFree_6 : decode cX7_withFree 6 = .ok (.getfield 7, 3) := by decide +kernel
theorem dX7_withFree_9 : decode cX7_withFree 9 = .ok (.iconst 0, 1) := by decide +kernel
theorem dX7_withFree_10 : decode cX7_withFree 10 = .ok (.iaload, 1) := by decide +kernel
theorem dX7_withFree_11 : decode cX7_withFree 11 = .ok (.if_icmp .ge 27, 3) := by decide +kernel
theorem dX7_withFree_14 : decode cX7_withFree 14 = .ok (.iload_n 1, 1) := by decide +kernel
theorem dX7_withFree_15 : decode cX7_withFree 15 = .ok (.aload_n 0, 1) := by decide +kernel
theorem dX7_withFree_16 : decode cX7_withFree 16 = .ok (.iload_n 2, 1) := by decide +kernel
theorem dX7_withFree_17 : decode cX7_withFree 17 = .ok (.invokevirtual 60, 3) := by decide +kernel
theorem dX7_withFree_20 : decode cX7_withFree 20 = .ok (.ifCond .eq 9, 3) := by decide +kernel
theorem dX7_withFree_23 : decode cX7_withFree 23 = .ok (.iconst 1, 1) := by decide +kernel
theorem dX7_withFree_24 : decode cX7_withFree 24 = .ok (.iload_n 2, 1) := by decide +kernel
theorem dX7_withFree_25 : decode cX7_withFree 25 = .ok (.ishl, 1) := by decide +kernel
theorem dX7_withFree_26 : decode cX7_withFree 26 = .ok (.goto 4, 3) := by decide +kernel
theorem dX7_withFree_29 : decode cX7_withFree 29 = .ok (.iconst 0, 1) := by decide +kernel
theorem dX7_withFree_30 : decode cX7_withFree 30 = .ok (.ior, 1) := by decide +kernel
theorem dX7_withFree_31 : decode cX7_withFree 31 = .ok (.istore_n 1, 1) := by decide +kernel
theorem dX7_withFree_32 : decode cX7_withFree 32 = .ok (.iinc 2 1, 3) := by decide +kernel
theorem dX7_withFree_35 : decode cX7_withFree 35 = .ok (.goto (-31), 3) := by decide +kernel
theorem dX7_withFree_38 : decode cX7_withFree 38 = .ok (.iload_n 1, 1) := by decide +kernel
theorem dX7_withFree_39 : decode cX7_withFree 39 = .ok (.ireturn, 1) := by decide +kernel
theorem dX7_count_0 : decode cX7_count 0 = .ok (.iload_n 1, 1) := by decide +kernel
theorem dX7_count_1 : decode cX7_count 1 = .ok (.tableswitch 176 0 17 #[87, 94, 103, 112, 117, 122, 128, 133, 133, 133, 133, 147, 152, 152, 152, 152, 166, 171], 87) := by decide +kernel
theorem dX7_count_88 : decode cX7_count 88 = .ok (.aload_n 0, 1) := by decide +kernel
theorem dX7_count_89 : decode cX7_count 89 = .ok (.getfield 7, 3) := by decide +kernel
theorem dX7_count_92 : decode cX7_count 92 = .ok (.iconst 0, 1) := by decide +kernel
theorem dX7_count_93 : decode cX7_count 93 = .ok (.iaload, 1) := by decide +kernel
theorem dX7_count_94 : decode cX7_count 94 = .ok (.ireturn, 1) := by decide +kernel
theorem dX7_count_95 : decode cX7_count 95 = .ok (.aload_n 0, 1) := by decide +kernel
theorem dX7_count_96 : decode cX7_count 96 = .ok (.getfield 7, 3) := by decide +kernel
theorem dX7_count_99 : decode cX7_count 99 = .ok (.sipush 329, 3) := by decide +kernel
theorem dX7_count_102 : decode cX7_count 102 = .ok (.iaload, 1) := by decide +kernel
theorem dX7_count_103 : decode cX7_count 103 = .ok (.ireturn, 1) := by decide +kernel
theorem dX7_count_104 : decode cX7_count 104 = .ok (.aload_n 0, 1) := by decide +kernel
theorem dX7_count_105 : decode cX7_count 105 = .ok (.getfield 7, 3) := by decide +kernel
theorem dX7_count_108 : decode cX7_count 108 = .ok (.sipush 335, 3) := by decide +kernel
theorem dX7_count_111 : decode cX7_count 111 = .ok (.iaload, 1) := by decide +kernel
theorem dX7_count_112 : decode cX7_count 112 = .ok (.ireturn, 1) := by decide +kernel
theorem dX7_count_113 : decode cX7_count 113 = .ok (.aload_n 0, 1) := by decide +kernel
theorem dX7_count_114 : decode cX7_count 114 = .ok (.invokevirtual 172, 3) := by decide +kernel
theorem dX7_count_117 : decode cX7_count 117 = .ok (.ireturn, 1) := by decide +kernel
theorem dX7_count_118 : decode cX7_count 118 = .ok (.aload_n 0, 1) := by decide +kernel
theorem dX7_count_119 : decode cX7_count 119 = .ok (.invokevirtual 167, 3) := by decide +kernel
theorem dX7_count_122 : decode cX7_count 122 = .ok (.ireturn, 1) := by decide +kernel
theorem dX7_count_123 : decode cX7_count 123 = .ok (.aload_n 0, 1) := by decide +kernel
theorem dX7_count_124 : decode cX7_count 124 = .ok (.iconst 0, 1) := by decide +kernel
theorem dX7_count_125 : decode cX7_count 125 = .ok (.invokevirtual 122, 3) := by decide +kernel
theorem dX7_count_128 : decode cX7_count 128 = .ok (.ireturn, 1) := by decide +kernel
theorem dX7_count_129 : decode cX7_count 129 = .ok (.aload_n 0, 1) := by decide +kernel
theorem dX7_count_130 : decode cX7_count 130 = .ok (.invokevirtual 179, 3) := by decide +kernel
theorem dX7_count_133 : decode cX7_count 133 = .ok (.ireturn, 1) := by decide +kernel
theorem dX7_count_134 : decode cX7_count 134 = .ok (.aload_n 0, 1) := by decide +kernel
theorem dX7_count_135 : decode cX7_count 135 = .ok (.getfield 7, 3) := by decide +kernel
theorem dX7_count_138 : decode cX7_count 138 = .ok (.sipush 546, 3) := by decide +kernel
theorem dX7_count_141 : decode cX7_count 141 = .ok (.iload_n 1, 1) := by decide +kernel
theorem dX7_count_142 : decode cX7_count 142 = .ok (.iadd, 1) := by decide +kernel
theorem dX7_count_143 : decode cX7_count 143 = .ok (.bipush 7, 2) := by decide +kernel
theorem dX7_count_145 : decode cX7_count 145 = .ok (.isub, 1) := by decide +kernel
theorem dX7_count_146 : decode cX7_count 146 = .ok (.iaload, 1) := by decide +kernel
theorem dX7_count_147 : decode cX7_count 147 = .ok (.ireturn, 1) := by decide +kernel
theorem dX7_count_148 : decode cX7_count 148 = .ok (.aload_n 0, 1) := by decide +kernel
theorem dX7_count_149 : decode cX7_count 149 = .ok (.invokevirtual 128, 3) := by decide +kernel
theorem dX7_count_152 : decode cX7_count 152 = .ok (.ireturn, 1) := by decide +kernel
theorem dX7_count_153 : decode cX7_count 153 = .ok (.aload_n 0, 1) := by decide +kernel
theorem dX7_count_154 : decode cX7_count 154 = .ok (.getfield 7, 3) := by decide +kernel
theorem dX7_count_157 : decode cX7_count 157 = .ok (.sipush 550, 3) := by decide +kernel
theorem dX7_count_160 : decode cX7_count 160 = .ok (.iload_n 1, 1) := by decide +kernel
theorem dX7_count_161 : decode cX7_count 161 = .ok (.iadd, 1) := by decide +kernel
theorem dX7_count_162 : decode cX7_count 162 = .ok (.bipush 12, 2) := by decide +kernel
theorem dX7_count_164 : decode cX7_count 164 = .ok (.isub, 1) := by decide +kernel
theorem dX7_count_165 : decode cX7_count 165 = .ok (.iaload, 1) := by decide +kernel
theorem dX7_count_166 : decode cX7_count 166 = .ok (.ireturn, 1) := by decide +kernel
theorem dX7_count_167 : decode cX7_count 167 = .ok (.aload_n 0, 1) := by decide +kernel
theorem dX7_count_168 : decode cX7_count 168 = .ok (.getfield 28, 3) := by decide +kernel
theorem dX7_count_171 : decode cX7_count 171 = .ok (.ireturn, 1) := by decide +kernel
theorem dX7_count_172 : decode cX7_count 172 = .ok (.aload_n 0, 1) := by decide +kernel
theorem dX7_count_173 : decode cX7_count 173 = .ok (.getfield 182, 3) := by decide +kernel
theorem dX7_count_176 : decode cX7_count 176 = .ok (.ireturn, 1) := by decide +kernel
theorem dX7_count_177 : decode cX7_count 177 = .ok (.ldc 109, 2) := by decide +kernel
theorem dX7_count_179 : decode cX7_count 179 = .ok (.ireturn, 1) := by decide +kernel
theorem dX7_undo_0 : decode cX7_undo 0 = .ok (.aload_n 0, 1) := by decide +kernel
theorem dX7_undo_1 : decode cX7_undo 1 = .ok (.getfield 28, 3) := by decide +kernel
theorem dX7_undo_4 : decode cX7_undo 4 = .ok (.ifCond .ne 6, 3) := by decide +kernel
theorem dX7_undo_7 : decode cX7_undo 7 = .ok (.ldc 110, 2) := by decide +kernel
theorem dX7_undo_9 : decode cX7_undo 9 = .ok (.ireturn, 1) := by decide +kernel
theorem dX7_undo_10 : decode cX7_undo 10 = .ok (.aload_n 0, 1) := by decide +kernel
theorem dX7_undo_11 : decode cX7_undo 11 = .ok (.dup, 1) := by decide +kernel
theorem dX7_undo_12 : decode cX7_undo 12 = .ok (.getfield 28, 3) := by decide +kernel
theorem dX7_undo_15 : decode cX7_undo 15 = .ok (.iconst 1, 1) := by decide +kernel
theorem dX7_undo_16 : decode cX7_undo 16 = .ok (.isub, 1) := by decide +kernel
theorem dX7_undo_17 : decode cX7_undo 17 = .ok (.putfield 28, 3) := by decide +kernel
theorem dX7_undo_20 : decode cX7_undo 20 = .ok (.iconst 0, 1) := by decide +kernel
theorem dX7_undo_21 : decode cX7_undo 21 = .ok (.istore_n 1, 1) := by decide +kernel
theorem dX7_undo_22 : decode cX7_undo 22 = .ok (.iload_n 1, 1) := by decide +kernel
theorem dX7_undo_23 : decode cX7_undo 23 = .ok (.sipush 554, 3) := by decide +kernel
theorem dX7_undo_26 : decode cX7_undo 26 = .ok (.if_icmp .ge 30, 3) := by decide +kernel
theorem dX7_undo_29 : decode cX7_undo 29 = .ok (.aload_n 0, 1) := by decide +kernel
theorem dX7_undo_30 : decode cX7_undo 30 = .ok (.getfield 7, 3) := by decide +kernel
theorem dX7_undo_33 : decode cX7_undo 33 = .ok (.iload_n 1, 1) := by decide +kernel
theorem dX7_undo_34 : decode cX7_undo 34 = .ok (.aload_n 0, 1) := by decide +kernel
theorem dX7_undo_35 : decode cX7_undo 35 = .ok (.getfield 16, 3) := by decide +kernel
theorem dX7_undo_38 : decode cX7_undo 38 = .ok (.sipush 554, 3) := by decide +kernel
theorem dX7_undo_41 : decode cX7_undo 41 = .ok (.aload_n 0, 1) := by decide +kernel
theorem dX7_undo_42 : decode cX7_undo 42 = .ok (.getfield 28, 3) := by decide +kernel
theorem dX7_undo_45 : decode cX7_undo 45 = .ok (.imul, 1) := by decide +kernel
theorem dX7_undo_46 : decode cX7_undo 46 = .ok (.iload_n 1, 1) := by decide +kernel
theorem dX7_undo_47 : decode cX7_undo 47 = .ok (.iadd, 1) := by decide +kernel
theorem dX7_undo_48 : decode cX7_undo 48 = .ok (.iaload, 1) := by decide +kernel
theorem dX7_undo_49 : decode cX7_undo 49 = .ok (.iastore, 1) := by decide +kernel
theorem dX7_undo_50 : decode cX7_undo 50 = .ok (.iinc 1 1, 3) := by decide +kernel
theorem dX7_undo_53 : decode cX7_undo 53 = .ok (.goto (-31), 3) := by decide +kernel
theorem dX7_undo_56 : decode cX7_undo 56 = .ok (.aload_n 0, 1) := by decide +kernel
theorem dX7_undo_57 : decode cX7_undo 57 = .ok (.getfield 28, 3) := by decide +kernel
theorem dX7_undo_60 : decode cX7_undo 60 = .ok (.ireturn, 1) := by decide +kernel
theorem dX7_type_0 : decode cX7_type 0 = .ok (.iload_n 1, 1) := by decide +kernel
theorem dX7_type_1 : decode cX7_type 1 = .ok (.bipush 32, 2) := by decide +kernel
theorem dX7_type_3 : decode cX7_type 3 = .ok (.bipush 126, 2) := by decide +kernel
theorem dX7_type_5 : decode cX7_type 5 = .ok (.invokestatic 32, 3) := by decide +kernel
theorem dX7_type_8 : decode cX7_type 8 = .ok (.ifCond .ne 6, 3) := by decide +kernel
theorem dX7_type_11 : decode cX7_type 11 = .ok (.ldc 109, 2) := by decide +kernel
theorem dX7_type_13 : decode cX7_type 13 = .ok (.ireturn, 1) := by decide +kernel
theorem dX7_type_14 : decode cX7_type 14 = .ok (.aload_n 0, 1) := by decide +kernel
theorem dX7_type_15 : decode cX7_type 15 = .ok (.getfield 182, 3) := by decide +kernel
theorem dX7_type_18 : decode cX7_type 18 = .ok (.bipush 60, 2) := by decide +kernel
theorem dX7_type_20 : decode cX7_type 20 = .ok (.if_icmp .ne 6, 3) := by decide +kernel
theorem dX7_type_23 : decode cX7_type 23 = .ok (.ldc 111, 2) := by decide +kernel
theorem dX7_type_25 : decode cX7_type 25 = .ok (.ireturn, 1) := by decide +kernel
theorem dX7_type_26 : decode cX7_type 26 = .ok (.aload_n 0, 1) := by decide +kernel
theorem dX7_type_27 : decode cX7_type 27 = .ok (.getfield 19, 3) := by decide +kernel
theorem dX7_type_30 : decode cX7_type 30 = .ok (.aload_n 0, 1) := by decide +kernel
theorem dX7_type_31 : decode cX7_type 31 = .ok (.getfield 182, 3) := by decide +kernel
theorem dX7_type_34 : decode cX7_type 34 = .ok (.iload_n 1, 1) := by decide +kernel
theorem dX7_type_35 : decode cX7_type 35 = .ok (.iastore, 1) := by decide +kernel
theorem dX7_type_36 : decode cX7_type 36 = .ok (.aload_n 0, 1) := by decide +kernel
theorem dX7_type_37 : decode cX7_type 37 = .ok (.dup, 1) := by decide +kernel
theorem dX7_type_38 : decode cX7_type 38 = .ok (.getfield 182, 3) := by decide +kernel
theorem dX7_type_41 : decode cX7_type 41 = .ok (.iconst 1, 1) := by decide +kernel
theorem dX7_type_42 : decode cX7_type 42 = .ok (.iadd, 1) := by decide +kernel
theorem dX7_type_43 : decode cX7_type 43 = .ok (.putfield 182, 3) := by decide +kernel
theorem dX7_type_46 : decode cX7_type 46 = .ok (.aload_n 0, 1) := by decide +kernel
theorem dX7_type_47 : decode cX7_type 47 = .ok (.getfield 182, 3) := by decide +kernel
theorem dX7_type_50 : decode cX7_type 50 = .ok (.ireturn, 1) := by decide +kernel
theorem dX7_clearText_0 : decode cX7_clearText 0 = .ok (.aload_n 0, 1) := by decide +kernel
theorem dX7_clearText_1 : decode cX7_clearText 1 = .ok (.getfield 182, 3) := by decide +kernel
theorem dX7_clearText_4 : decode cX7_clearText 4 = .ok (.istore_n 1, 1) := by decide +kernel
theorem dX7_clearText_5 : decode cX7_clearText 5 = .ok (.aload_n 0, 1) := by decide +kernel
theorem dX7_clearText_6 : decode cX7_clearText 6 = .ok (.iconst 0, 1) := by decide +kernel
theorem dX7_clearText_7 : decode cX7_clearText 7 = .ok (.putfield 182, 3) := by decide +kernel
theorem dX7_clearText_10 : decode cX7_clearText 10 = .ok (.iload_n 1, 1) := by decide +kernel
theorem dX7_clearText_11 : decode cX7_clearText 11 = .ok (.ireturn, 1) := by decide +kernel
theorem dX7_misfits_0 : decode cX7_misfits 0 = .ok (.aload_n 0, 1) := by decide +kernel
theorem dX7_misfits_1 : decode cX7_misfits 1 = .ok (.aload_n 0, 1) := by decide +kernel
theorem dX7_misfits_2 : decode cX7_misfits 2 = .ok (.getfield 185, 3) := by decide +kernel
theorem dX7_misfits_5 : decode cX7_misfits 5 = .ok (.ifCond .ne 7, 3) := by decide +kernel
theorem dX7_misfits_8 : decode cX7_misfits 8 = .ok (.iconst 1, 1) := by decide +kernel
theorem dX7_misfits_9 : decode cX7_misfits 9 = .ok (.goto 7, 3) := by decide +kernel
theorem dX7_misfits_12 : decode cX7_misfits 12 = .ok (.aload_n 0, 1) := by decide +kernel
theorem dX7_misfits_13 : decode cX7_misfits 13 = .ok (.getfield 185, 3) := by decide +kernel
theorem dX7_misfits_16 : decode cX7_misfits 16 = .ok (.putfield 185, 3) := by decide +kernel
theorem dX7_misfits_19 : decode cX7_misfits 19 = .ok (.aload_n 0, 1) := by decide +kernel
theorem dX7_misfits_20 : decode cX7_misfits 20 = .ok (.iload_n 1, 1) := by decide +kernel
theorem dX7_misfits_21 : decode cX7_misfits 21 = .ok (.aload_n 0, 1) := by decide +kernel
theorem dX7_misfits_22 : decode cX7_misfits 22 = .ok (.getfield 188, 3) := by decide +kernel
theorem dX7_misfits_25 : decode cX7_misfits 25 = .ok (.isub, 1) := by decide +kernel
theorem dX7_misfits_26 : decode cX7_misfits 26 = .ok (.putfield 191, 3) := by decide +kernel
theorem dX7_misfits_29 : decode cX7_misfits 29 = .ok (.return_, 1) := by decide +kernel
theorem dX7_isNext_0 : decode cX7_isNext 0 = .ok (.aload_n 0, 1) := by decide +kernel
theorem dX7_isNext_1 : decode cX7_isNext 1 = .ok (.getfield 194, 3) := by decide +kernel
theorem dX7_isNext_4 : decode cX7_isNext 4 = .ok (.aload_n 0, 1) := by decide +kernel
theorem dX7_isNext_5 : decode cX7_isNext 5 = .ok (.getfield 182, 3) := by decide +kernel
theorem dX7_isNext_8 : decode cX7_isNext 8 = .ok (.if_icmp .ge 24, 3) := by decide +kernel
theorem dX7_isNext_11 : decode cX7_isNext 11 = .ok (.aload_n 0, 1) := by decide +kernel
theorem dX7_isNext_12 : decode cX7_isNext 12 = .ok (.getfield 19, 3) := by decide +kernel
theorem dX7_isNext_15 : decode cX7_isNext 15 = .ok (.aload_n 0, 1) := by decide +kernel
theorem dX7_isNext_16 : decode cX7_isNext 16 = .ok (.getfield 194, 3) := by decide +kernel
theorem dX7_isNext_19 : decode cX7_isNext 19 = .ok (.iaload, 1) := by decide +kernel
theorem dX7_isNext_20 : decode cX7_isNext 20 = .ok (.iload_n 1, 1) := by decide +kernel
theorem dX7_isNext_21 : decode cX7_isNext 21 = .ok (.iload_n 2, 1) := by decide +kernel
theorem dX7_isNext_22 : decode cX7_isNext 22 = .ok (.invokestatic 32, 3) := by decide +kernel
theorem dX7_isNext_25 : decode cX7_isNext 25 = .ok (.ifCond .eq 7, 3) := by decide +kernel
theorem dX7_isNext_28 : decode cX7_isNext 28 = .ok (.iconst 1, 1) := by decide +kernel
theorem dX7_isNext_29 : decode cX7_isNext 29 = .ok (.goto 4, 3) := by decide +kernel
theorem dX7_isNext_32 : decode cX7_isNext 32 = .ok (.iconst 0, 1) := by decide +kernel
theorem dX7_isNext_33 : decode cX7_isNext 33 = .ok (.ireturn, 1) := by decide +kernel
theorem dX7_spells_0 : decode cX7_spells 0 = .ok (.iload_n 1, 1) := by decide +kernel
theorem dX7_spells_1 : decode cX7_spells 1 = .ok (.iconst 4, 1) := by decide +kernel
theorem dX7_spells_2 : decode cX7_spells 2 = .ok (.if_icmp .lt 67, 3) := by decide +kernel
theorem dX7_spells_5 : decode cX7_spells 5 = .ok (.aload_n 0, 1) := by decide +kernel
theorem dX7_spells_6 : decode cX7_spells 6 = .ok (.getfield 19, 3) := by decide +kernel
theorem dX7_spells_9 : decode cX7_spells 9 = .ok (.aload_n 0, 1) := by decide +kernel
theorem dX7_spells_10 : decode cX7_spells 10 = .ok (.getfield 188, 3) := by decide +kernel
theorem dX7_spells_13 : decode cX7_spells 13 = .ok (.iaload, 1) := by decide +kernel
theorem dX7_spells_14 : decode cX7_spells 14 = .ok (.iload_n 2, 1) := by decide +kernel
theorem dX7_spells_15 : decode cX7_spells 15 = .ok (.if_icmp .ne 54, 3) := by decide +kernel
theorem dX7_spells_18 : decode cX7_spells 18 = .ok (.aload_n 0, 1) := by decide +kernel
theorem dX7_spells_19 : decode cX7_spells 19 = .ok (.getfield 19, 3) := by decide +kernel
theorem dX7_spells_22 : decode cX7_spells 22 = .ok (.aload_n 0, 1) := by decide +kernel
theorem dX7_spells_23 : decode cX7_spells 23 = .ok (.getfield 188, 3) := by decide +kernel
theorem dX7_spells_26 : decode cX7_spells 26 = .ok (.iconst 1, 1) := by decide +kernel
theorem dX7_spells_27 : decode cX7_spells 27 = .ok (.iadd, 1) := by decide +kernel
theorem dX7_spells_28 : decode cX7_spells 28 = .ok (.iaload, 1) := by decide +kernel
theorem dX7_spells_29 : decode cX7_spells 29 = .ok (.iload_n 3, 1) := by decide +kernel
theorem dX7_spells_30 : decode cX7_spells 30 = .ok (.if_icmp .ne 39, 3) := by decide +kernel
theorem dX7_spells_33 : decode cX7_spells 33 = .ok (.aload_n 0, 1) := by decide +kernel
theorem dX7_spells_34 : decode cX7_spells 34 = .ok (.getfield 19, 3) := by decide +kernel
theorem dX7_spells_37 : decode cX7_spells 37 = .ok (.aload_n 0, 1) := by decide +kernel
theorem dX7_spells_38 : decode cX7_spells 38 = .ok (.getfield 188, 3) := by decide +kernel
theorem dX7_spells_41 : decode cX7_spells 41 = .ok (.iconst 2, 1) := by decide +kernel
theorem dX7_spells_42 : decode cX7_spells 42 = .ok (.iadd, 1) := by decide +kernel
theorem dX7_spells_43 : decode cX7_spells 43 = .ok (.iaload, 1) := by decide +kernel
theorem dX7_spells_44 : decode cX7_spells 44 = .ok (.iload 4, 2) := by decide +kernel
theorem dX7_spells_46 : decode cX7_spells 46 = .ok (.if_icmp .ne 23, 3) := by decide +kernel
theorem dX7_spells_49 : decode cX7_spells 49 = .ok (.aload_n 0, 1) := by decide +kernel
theorem dX7_spells_50 : decode cX7_spells 50 = .ok (.getfield 19, 3) := by decide +kernel
theorem dX7_spells_53 : decode cX7_spells 53 = .ok (.aload_n 0, 1) := by decide +kernel
theorem dX7_spells_54 : decode cX7_spells 54 = .ok (.getfield 188, 3) := by decide +kernel
theorem dX7_spells_57 : decode cX7_spells 57 = .ok (.iconst 3, 1) := by decide +kernel
theorem dX7_spells_58 : decode cX7_spells 58 = .ok (.iadd, 1) := by decide +kernel
theorem dX7_spells_59 : decode cX7_spells 59 = .ok (.iaload, 1) := by decide +kernel
theorem dX7_spells_60 : decode cX7_spells 60 = .ok (.iload 5, 2) := by decide +kernel
theorem dX7_spells_62 : decode cX7_spells 62 = .ok (.if_icmp .ne 7, 3) := by decide +kernel
theorem dX7_spells_65 : decode cX7_spells 65 = .ok (.iconst 1, 1) := by decide +kernel
theorem dX7_spells_66 : decode cX7_spells 66 = .ok (.goto 4, 3) := by decide +kernel
theorem dX7_spells_69 : decode cX7_spells 69 = .ok (.iconst 0, 1) := by decide +kernel
theorem dX7_spells_70 : decode cX7_spells 70 = .ok (.ireturn, 1) := by decide +kernel
theorem dX7_wordOf_0 : decode cX7_wordOf 0 = .ok (.iload_n 1, 1) := by decide +kernel
theorem dX7_wordOf_1 : decode cX7_wordOf 1 = .ok (.iconst 4, 1) := by decide +kernel
theorem dX7_wordOf_2 : decode cX7_wordOf 2 = .ok (.if_icmp .ne 65, 3) := by decide +kernel
theorem dX7_wordOf_5 : decode cX7_wordOf 5 = .ok (.aload_n 0, 1) := by decide +kernel
theorem dX7_wordOf_6 : decode cX7_wordOf 6 = .ok (.iload_n 1, 1) := by decide +kernel
theorem dX7_wordOf_7 : decode cX7_wordOf 7 = .ok (.bipush 106, 2) := by decide +kernel
theorem dX7_wordOf_9 : decode cX7_wordOf 9 = .ok (.bipush 111, 2) := by decide +kernel
theorem dX7_wordOf_11 : decode cX7_wordOf 11 = .ok (.bipush 105, 2) := by decide +kernel
theorem dX7_wordOf_13 : decode cX7_wordOf 13 = .ok (.bipush 110, 2) := by decide +kernel
theorem dX7_wordOf_15 : decode cX7_wordOf 15 = .ok (.invokevirtual 197, 3) := by decide +kernel
theorem dX7_wordOf_18 : decode cX7_wordOf 18 = .ok (.ifCond .eq 7, 3) := by decide +kernel
theorem dX7_wordOf_21 : decode cX7_wordOf 21 = .ok (.iconst 0, 1) := by decide +kernel
theorem dX7_wordOf_22 : decode cX7_wordOf 22 = .ok (.goto 44, 3) := by decide +kernel
theorem dX7_wordOf_25 : decode cX7_wordOf 25 = .ok (.aload_n 0, 1) := by decide +kernel
theorem dX7_wordOf_26 : decode cX7_wordOf 26 = .ok (.iload_n 1, 1) := by decide +kernel
theorem dX7_wordOf_27 : decode cX7_wordOf 27 = .ok (.bipush 119, 2) := by decide +kernel
theorem dX7_wordOf_29 : decode cX7_wordOf 29 = .ok (.bipush 105, 2) := by decide +kernel
theorem dX7_wordOf_31 : decode cX7_wordOf 31 = .ok (.bipush 115, 2) := by decide +kernel
theorem dX7_wordOf_33 : decode cX7_wordOf 33 = .ok (.bipush 104, 2) := by decide +kernel
theorem dX7_wordOf_35 : decode cX7_wordOf 35 = .ok (.invokevirtual 197, 3) := by decide +kernel
theorem dX7_wordOf_38 : decode cX7_wordOf 38 = .ok (.ifCond .eq 7, 3) := by decide +kernel
theorem dX7_wordOf_41 : decode cX7_wordOf 41 = .ok (.iconst 1, 1) := by decide +kernel
theorem dX7_wordOf_42 : decode cX7_wordOf 42 = .ok (.goto 24, 3) := by decide +kernel
theorem dX7_wordOf_45 : decode cX7_wordOf 45 = .ok (.aload_n 0, 1) := by decide +kernel
theorem dX7_wordOf_46 : decode cX7_wordOf 46 = .ok (.iload_n 1, 1) := by decide +kernel
theorem dX7_wordOf_47 : decode cX7_wordOf 47 = .ok (.bipush 116, 2) := by decide +kernel
theorem dX7_wordOf_49 : decode cX7_wordOf 49 = .ok (.bipush 101, 2) := by decide +kernel
theorem dX7_wordOf_51 : decode cX7_wordOf 51 = .ok (.bipush 114, 2) := by decide +kernel
theorem dX7_wordOf_53 : decode cX7_wordOf 53 = .ok (.bipush 109, 2) := by decide +kernel
theorem dX7_wordOf_55 : decode cX7_wordOf 55 = .ok (.invokevirtual 197, 3) := by decide +kernel
theorem dX7_wordOf_58 : decode cX7_wordOf 58 = .ok (.ifCond .eq 7, 3) := by decide +kernel
theorem dX7_wordOf_61 : decode cX7_wordOf 61 = .ok (.iconst 4, 1) := by decide +kernel
theorem dX7_wordOf_62 : decode cX7_wordOf 62 = .ok (.goto 4, 3) := by decide +kernel
theorem dX7_wordOf_65 : decode cX7_wordOf 65 = .ok (.iconst (-1), 1) := by decide +kernel
theorem dX7_wordOf_66 : decode cX7_wordOf 66 = .ok (.ireturn, 1) := by decide +kernel
theorem dX7_wordOf_67 : decode cX7_wordOf 67 = .ok (.iload_n 1, 1) := by decide +kernel
theorem dX7_wordOf_68 : decode cX7_wordOf 68 = .ok (.iconst 5, 1) := by decide +kernel
theorem dX7_wordOf_69 : decode cX7_wordOf 69 = .ok (.if_icmp .ne 23, 3) := by decide +kernel
theorem dX7_wordOf_72 : decode cX7_wordOf 72 = .ok (.aload_n 0, 1) := by decide +kernel
theorem dX7_wordOf_73 : decode cX7_wordOf 73 = .ok (.getfield 19, 3) := by decide +kernel
theorem dX7_wordOf_76 : decode cX7_wordOf 76 = .ok (.aload_n 0, 1) := by decide +kernel
theorem dX7_wordOf_77 : decode cX7_wordOf 77 = .ok (.getfield 188, 3) := by decide +kernel
theorem dX7_wordOf_80 : decode cX7_wordOf 80 = .ok (.iconst 4, 1) := by decide +kernel
theorem dX7_wordOf_81 : decode cX7_wordOf 81 = .ok (.iadd, 1) := by decide +kernel
theorem dX7_wordOf_82 : decode cX7_wordOf 82 = .ok (.iaload, 1) := by decide +kernel
theorem dX7_wordOf_83 : decode cX7_wordOf 83 = .ok (.bipush 101, 2) := by decide +kernel
theorem dX7_wordOf_85 : decode cX7_wordOf 85 = .ok (.if_icmp .ne 7, 3) := by decide +kernel
theorem dX7_wordOf_88 : decode cX7_wordOf 88 = .ok (.iconst 1, 1) := by decide +kernel
theorem dX7_wordOf_89 : decode cX7_wordOf 89 = .ok (.goto 4, 3) := by decide +kernel
theorem dX7_wordOf_92 : decode cX7_wordOf 92 = .ok (.iconst 0, 1) := by decide +kernel
theorem dX7_wordOf_93 : decode cX7_wordOf 93 = .ok (.istore_n 2, 1) := by decide +kernel
theorem dX7_wordOf_94 : decode cX7_wordOf 94 = .ok (.iload_n 2, 1) := by decide +kernel
theorem dX7_wordOf_95 : decode cX7_wordOf 95 = .ok (.ifCond .eq 23, 3) := by decide +kernel
theorem dX7_wordOf_98 : decode cX7_wordOf 98 = .ok (.aload_n 0, 1) := by decide +kernel
theorem dX7_wordOf_99 : decode cX7_wordOf 99 = .ok (.iload_n 1, 1) := by decide +kernel
theorem dX7_wordOf_100 : decode cX7_wordOf 100 = .ok (.bipush 108, 2) := by decide +kernel
theorem dX7_wordOf_102 : decode cX7_wordOf 102 = .ok (.bipush 101, 2) := by decide +kernel
theorem dX7_wordOf_104 : decode cX7_wordOf 104 = .ok (.bipush 97, 2) := by decide +kernel
theorem dX7_wordOf_106 : decode cX7_wordOf 106 = .ok (.bipush 118, 2) := by decide +kernel
theorem dX7_wordOf_108 : decode cX7_wordOf 108 = .ok (.invokevirtual 197, 3) := by decide +kernel
theorem dX7_wordOf_111 : decode cX7_wordOf 111 = .ok (.ifCond .eq 7, 3) := by decide +kernel
theorem dX7_wordOf_114 : decode cX7_wordOf 114 = .ok (.iconst 2, 1) := by decide +kernel
theorem dX7_wordOf_115 : decode cX7_wordOf 115 = .ok (.goto 28, 3) := by decide +kernel
theorem dX7_wordOf_118 : decode cX7_wordOf 118 = .ok (.iload_n 2, 1) := by decide +kernel
theorem dX7_wordOf_119 : decode cX7_wordOf 119 = .ok (.ifCond .eq 23, 3) := by decide +kernel
theorem dX7_wordOf_122 : decode cX7_wordOf 122 = .ok (.aload_n 0, 1) := by decide +kernel
theorem dX7_wordOf_123 : decode cX7_wordOf 123 = .ok (.iload_n 1, 1) := by decide +kernel
theorem dX7_wordOf_124 : decode cX7_wordOf 124 = .ok (.bipush 99, 2) := by decide +kernel
theorem dX7_wordOf_126 : decode cX7_wordOf 126 = .ok (.bipush 108, 2) := by decide +kernel
theorem dX7_wordOf_128 : decode cX7_wordOf 128 = .ok (.bipush 111, 2) := by decide +kernel
theorem dX7_wordOf_130 : decode cX7_wordOf 130 = .ok (.bipush 115, 2) := by decide +kernel
theorem dX7_wordOf_132 : decode cX7_wordOf 132 = .ok (.invokevirtual 197, 3) := by decide +kernel
theorem dX7_wordOf_135 : decode cX7_wordOf 135 = .ok (.ifCond .eq 7, 3) := by decide +kernel
theorem dX7_wordOf_138 : decode cX7_wordOf 138 = .ok (.iconst 3, 1) := by decide +kernel
theorem dX7_wordOf_139 : decode cX7_wordOf 139 = .ok (.goto 4, 3) := by decide +kernel
theorem dX7_wordOf_142 : decode cX7_wordOf 142 = .ok (.iconst (-1), 1) := by decide +kernel
theorem dX7_wordOf_143 : decode cX7_wordOf 143 = .ok (.ireturn, 1) := by decide +kernel
theorem dX7_readNumber_0 : decode cX7_readNumber 0 = .ok (.aload_n 0, 1) := by decide +kernel
theorem dX7_readNumber_1 : decode cX7_readNumber 1 = .ok (.bipush 48, 2) := by decide +kernel
theorem dX7_readNumber_3 : decode cX7_readNumber 3 = .ok (.bipush 57, 2) := by decide +kernel
theorem dX7_readNumber_5 : decode cX7_readNumber 5 = .ok (.invokevirtual 201, 3) := by decide +kernel
theorem dX7_readNumber_8 : decode cX7_readNumber 8 = .ok (.ifCond .ne 12, 3) := by decide +kernel
theorem dX7_readNumber_11 : decode cX7_readNumber 11 = .ok (.aload_n 0, 1) := by decide +kernel
theorem dX7_readNumber_12 : decode cX7_readNumber 12 = .ok (.aload_n 0, 1) := by decide +kernel
theorem dX7_readNumber_13 : decode cX7_readNumber 13 = .ok (.getfield 194, 3) := by decide +kernel
theorem dX7_readNumber_16 : decode cX7_readNumber 16 = .ok (.invokevirtual 204, 3) := by decide +kernel
theorem dX7_readNumber_19 : decode cX7_readNumber 19 = .ok (.return_, 1) := by decide +kernel
theorem dX7_readNumber_20 : decode cX7_readNumber 20 = .ok (.aload_n 0, 1) := by decide +kernel
theorem dX7_readNumber_21 : decode cX7_readNumber 21 = .ok (.getfield 19, 3) := by decide +kernel
theorem dX7_readNumber_24 : decode cX7_readNumber 24 = .ok (.aload_n 0, 1) := by decide +kernel
theorem dX7_readNumber_25 : decode cX7_readNumber 25 = .ok (.getfield 194, 3) := by decide +kernel
theorem dX7_readNumber_28 : decode cX7_readNumber 28 = .ok (.iaload, 1) := by decide +kernel
theorem dX7_readNumber_29 : decode cX7_readNumber 29 = .ok (.bipush 48, 2) := by decide +kernel
theorem dX7_readNumber_31 : decode cX7_readNumber 31 = .ok (.isub, 1) := by decide +kernel
theorem dX7_readNumber_32 : decode cX7_readNumber 32 = .ok (.istore_n 1, 1) := by decide +kernel
theorem dX7_readNumber_33 : decode cX7_readNumber 33 = .ok (.aload_n 0, 1) := by decide +kernel
theorem dX7_readNumber_34 : decode cX7_readNumber 34 = .ok (.dup, 1) := by decide +kernel
theorem dX7_readNumber_35 : decode cX7_readNumber 35 = .ok (.getfield 194, 3) := by decide +kernel
theorem dX7_readNumber_38 : decode cX7_readNumber 38 = .ok (.iconst 1, 1) := by decide +kernel
theorem dX7_readNumber_39 : decode cX7_readNumber 39 = .ok (.iadd, 1) := by decide +kernel
theorem dX7_readNumber_40 : decode cX7_readNumber 40 = .ok (.putfield 194, 3) := by decide +kernel
theorem dX7_readNumber_43 : decode cX7_readNumber 43 = .ok (.aload_n 0, 1) := by decide +kernel
theorem dX7_readNumber_44 : decode cX7_readNumber 44 = .ok (.bipush 48, 2) := by decide +kernel
theorem dX7_readNumber_46 : decode cX7_readNumber 46 = .ok (.bipush 57, 2) := by decide +kernel
theorem dX7_readNumber_48 : decode cX7_readNumber 48 = .ok (.invokevirtual 201, 3) := by decide +kernel
theorem dX7_readNumber_51 : decode cX7_readNumber 51 = .ok (.ifCond .eq 31, 3) := by decide +kernel
theorem dX7_readNumber_54 : decode cX7_readNumber 54 = .ok (.bipush 10, 2) := by decide +kernel
theorem dX7_readNumber_56 : decode cX7_readNumber 56 = .ok (.iload_n 1, 1) := by decide +kernel
theorem dX7_readNumber_57 : decode cX7_readNumber 57 = .ok (.imul, 1) := by decide +kernel
theorem dX7_readNumber_58 : decode cX7_readNumber 58 = .ok (.aload_n 0, 1) := by decide +kernel
theorem dX7_readNumber_59 : decode cX7_readNumber 59 = .ok (.getfield 19, 3) := by decide +kernel
theorem dX7_readNumber_62 : decode cX7_readNumber 62 = .ok (.aload_n 0, 1) := by decide +kernel
theorem dX7_readNumber_63 : decode cX7_readNumber 63 = .ok (.getfield 194, 3) := by decide +kernel
theorem dX7_readNumber_66 : decode cX7_readNumber 66 = .ok (.iaload, 1) := by decide +kernel
theorem dX7_readNumber_67 : decode cX7_readNumber 67 = .ok (.iadd, 1) := by decide +kernel
theorem dX7_readNumber_68 : decode cX7_readNumber 68 = .ok (.bipush 48, 2) := by decide +kernel
theorem dX7_readNumber_70 : decode cX7_readNumber 70 = .ok (.isub, 1) := by decide +kernel
theorem dX7_readNumber_71 : decode cX7_readNumber 71 = .ok (.istore_n 1, 1) := by decide +kernel
theorem dX7_readNumber_72 : decode cX7_readNumber 72 = .ok (.aload_n 0, 1) := by decide +kernel
theorem dX7_readNumber_73 : decode cX7_readNumber 73 = .ok (.dup, 1) := by decide +kernel
theorem dX7_readNumber_74 : decode cX7_readNumber 74 = .ok (.getfield 194, 3) := by decide +kernel
theorem dX7_readNumber_77 : decode cX7_readNumber 77 = .ok (.iconst 1, 1) := by decide +kernel
theorem dX7_readNumber_78 : decode cX7_readNumber 78 = .ok (.iadd, 1) := by decide +kernel
theorem dX7_readNumber_79 : decode cX7_readNumber 79 = .ok (.putfield 194, 3) := by decide +kernel
theorem dX7_readNumber_82 : decode cX7_readNumber 82 = .ok (.aload_n 0, 1) := by decide +kernel
theorem dX7_readNumber_83 : decode cX7_readNumber 83 = .ok (.getfield 22, 3) := by decide +kernel
theorem dX7_readNumber_86 : decode cX7_readNumber 86 = .ok (.aload_n 0, 1) := by decide +kernel
theorem dX7_readNumber_87 : decode cX7_readNumber 87 = .ok (.getfield 207, 3) := by decide +kernel
theorem dX7_readNumber_90 : decode cX7_readNumber 90 = .ok (.iload_n 1, 1) := by decide +kernel
theorem dX7_readNumber_91 : decode cX7_readNumber 91 = .ok (.iastore, 1) := by decide +kernel
theorem dX7_readNumber_92 : decode cX7_readNumber 92 = .ok (.aload_n 0, 1) := by decide +kernel
theorem dX7_readNumber_93 : decode cX7_readNumber 93 = .ok (.dup, 1) := by decide +kernel
theorem dX7_readNumber_94 : decode cX7_readNumber 94 = .ok (.getfield 207, 3) := by decide +kernel
theorem dX7_readNumber_97 : decode cX7_readNumber 97 = .ok (.iconst 1, 1) := by decide +kernel
theorem dX7_readNumber_98 : decode cX7_readNumber 98 = .ok (.iadd, 1) := by decide +kernel
theorem dX7_readNumber_99 : decode cX7_readNumber 99 = .ok (.putfield 207, 3) := by decide +kernel
theorem dX7_readNumber_102 : decode cX7_readNumber 102 = .ok (.return_, 1) := by decide +kernel
theorem dX7_readOrder_0 : decode cX7_readOrder 0 = .ok (.aload_n 0, 1) := by decide +kernel
theorem dX7_readOrder_1 : decode cX7_readOrder 1 = .ok (.aload_n 0, 1) := by decide +kernel
theorem dX7_readOrder_2 : decode cX7_readOrder 2 = .ok (.getfield 188, 3) := by decide +kernel
theorem dX7_readOrder_5 : decode cX7_readOrder 5 = .ok (.putfield 194, 3) := by decide +kernel
theorem dX7_readOrder_8 : decode cX7_readOrder 8 = .ok (.aload_n 0, 1) := by decide +kernel
theorem dX7_readOrder_9 : decode cX7_readOrder 9 = .ok (.iconst 0, 1) := by decide +kernel
theorem dX7_readOrder_10 : decode cX7_readOrder 10 = .ok (.putfield 207, 3) := by decide +kernel
theorem dX7_readOrder_13 : decode cX7_readOrder 13 = .ok (.aload_n 0, 1) := by decide +kernel
theorem dX7_readOrder_14 : decode cX7_readOrder 14 = .ok (.bipush 97, 2) := by decide +kernel
theorem dX7_readOrder_16 : decode cX7_readOrder 16 = .ok (.bipush 122, 2) := by decide +kernel
theorem dX7_readOrder_18 : decode cX7_readOrder 18 = .ok (.invokevirtual 201, 3) := by decide +kernel
theorem dX7_readOrder_21 : decode cX7_readOrder 21 = .ok (.ifCond .eq 16, 3) := by decide +kernel
theorem dX7_readOrder_24 : decode cX7_readOrder 24 = .ok (.aload_n 0, 1) := by decide +kernel
theorem dX7_readOrder_25 : decode cX7_readOrder 25 = .ok (.dup, 1) := by decide +kernel
theorem dX7_readOrder_26 : decode cX7_readOrder 26 = .ok (.getfield 194, 3) := by decide +kernel
theorem dX7_readOrder_29 : decode cX7_readOrder 29 = .ok (.iconst 1, 1) := by decide +kernel
theorem dX7_readOrder_30 : decode cX7_readOrder 30 = .ok (.iadd, 1) := by decide +kernel
theorem dX7_readOrder_31 : decode cX7_readOrder 31 = .ok (.putfield 194, 3) := by decide +kernel
theorem dX7_readOrder_34 : decode cX7_readOrder 34 = .ok (.goto (-21), 3) := by decide +kernel
theorem dX7_readOrder_37 : decode cX7_readOrder 37 = .ok (.aload_n 0, 1) := by decide +kernel
theorem dX7_readOrder_38 : decode cX7_readOrder 38 = .ok (.aload_n 0, 1) := by decide +kernel
theorem dX7_readOrder_39 : decode cX7_readOrder 39 = .ok (.getfield 194, 3) := by decide +kernel
theorem dX7_readOrder_42 : decode cX7_readOrder 42 = .ok (.aload_n 0, 1) := by decide +kernel
theorem dX7_readOrder_43 : decode cX7_readOrder 43 = .ok (.getfield 182, 3) := by decide +kernel
theorem dX7_readOrder_46 : decode cX7_readOrder 46 = .ok (.if_icmp .ne 7, 3) := by decide +kernel
theorem dX7_readOrder_49 : decode cX7_readOrder 49 = .ok (.iconst (-1), 1) := by decide +kernel
theorem dX7_readOrder_50 : decode cX7_readOrder 50 = .ok (.goto 16, 3) := by decide +kernel
theorem dX7_readOrder_53 : decode cX7_readOrder 53 = .ok (.aload_n 0, 1) := by decide +kernel
theorem dX7_readOrder_54 : decode cX7_readOrder 54 = .ok (.aload_n 0, 1) := by decide +kernel
theorem dX7_readOrder_55 : decode cX7_readOrder 55 = .ok (.getfield 194, 3) := by decide +kernel
theorem dX7_readOrder_58 : decode cX7_readOrder 58 = .ok (.aload_n 0, 1) := by decide +kernel
theorem dX7_readOrder_59 : decode cX7_readOrder 59 = .ok (.getfield 188, 3) := by decide +kernel
theorem dX7_readOrder_62 : decode cX7_readOrder 62 = .ok (.isub, 1) := by decide +kernel
theorem dX7_readOrder_63 : decode cX7_readOrder 63 = .ok (.invokevirtual 210, 3) := by decide +kernel
theorem dX7_readOrder_66 : decode cX7_readOrder 66 = .ok (.putfield 213, 3) := by decide +kernel
theorem dX7_readOrder_69 : decode cX7_readOrder 69 = .ok (.aload_n 0, 1) := by decide +kernel
theorem dX7_readOrder_70 : decode cX7_readOrder 70 = .ok (.getfield 213, 3) := by decide +kernel
theorem dX7_readOrder_73 : decode cX7_readOrder 73 = .ok (.ifCond .ge 30, 3) := by decide +kernel
theorem dX7_readOrder_76 : decode cX7_readOrder 76 = .ok (.aload_n 0, 1) := by decide +kernel
theorem dX7_readOrder_77 : decode cX7_readOrder 77 = .ok (.aload_n 0, 1) := by decide +kernel
theorem dX7_readOrder_78 : decode cX7_readOrder 78 = .ok (.getfield 194, 3) := by decide +kernel
theorem dX7_readOrder_81 : decode cX7_readOrder 81 = .ok (.aload_n 0, 1) := by decide +kernel
theorem dX7_readOrder_82 : decode cX7_readOrder 82 = .ok (.getfield 182, 3) := by decide +kernel
theorem dX7_readOrder_85 : decode cX7_readOrder 85 = .ok (.if_icmp .ne 10, 3) := by decide +kernel
theorem dX7_readOrder_88 : decode cX7_readOrder 88 = .ok (.aload_n 0, 1) := by decide +kernel
theorem dX7_readOrder_89 : decode cX7_readOrder 89 = .ok (.getfield 182, 3) := by decide +kernel
theorem dX7_readOrder_92 : decode cX7_readOrder 92 = .ok (.goto 7, 3) := by decide +kernel
theorem dX7_readOrder_95 : decode cX7_readOrder 95 = .ok (.aload_n 0, 1) := by decide +kernel
theorem dX7_readOrder_96 : decode cX7_readOrder 96 = .ok (.getfield 188, 3) := by decide +kernel
theorem dX7_readOrder_99 : decode cX7_readOrder 99 = .ok (.invokevirtual 204, 3) := by decide +kernel
theorem dX7_readOrder_102 : decode cX7_readOrder 102 = .ok (.return_, 1) := by decide +kernel
theorem dX7_readOrder_103 : decode cX7_readOrder 103 = .ok (.aload_n 0, 1) := by decide +kernel
theorem dX7_readOrder_104 : decode cX7_readOrder 104 = .ok (.getfield 213, 3) := by decide +kernel
theorem dX7_readOrder_107 : decode cX7_readOrder 107 = .ok (.ifCond .eq 11, 3) := by decide +kernel
theorem dX7_readOrder_110 : decode cX7_readOrder 110 = .ok (.aload_n 0, 1) := by decide +kernel
theorem dX7_readOrder_111 : decode cX7_readOrder 111 = .ok (.getfield 213, 3) := by decide +kernel
theorem dX7_readOrder_114 : decode cX7_readOrder 114 = .ok (.iconst 2, 1) := by decide +kernel
theorem dX7_readOrder_115 : decode cX7_readOrder 115 = .ok (.if_icmp .ne 7, 3) := by decide +kernel
theorem dX7_readOrder_118 : decode cX7_readOrder 118 = .ok (.iconst 1, 1) := by decide +kernel
theorem dX7_readOrder_119 : decode cX7_readOrder 119 = .ok (.goto 16, 3) := by decide +kernel
theorem dX7_readOrder_122 : decode cX7_readOrder 122 = .ok (.aload_n 0, 1) := by decide +kernel
theorem dX7_readOrder_123 : decode cX7_readOrder 123 = .ok (.getfield 213, 3) := by decide +kernel
theorem dX7_readOrder_126 : decode cX7_readOrder 126 = .ok (.iconst 1, 1) := by decide +kernel
theorem dX7_readOrder_127 : decode cX7_readOrder 127 = .ok (.if_icmp .ne 7, 3) := by decide +kernel
theorem dX7_readOrder_130 : decode cX7_readOrder 130 = .ok (.iconst 2, 1) := by decide +kernel
theorem dX7_readOrder_131 : decode cX7_readOrder 131 = .ok (.goto 4, 3) := by decide +kernel
theorem dX7_readOrder_134 : decode cX7_readOrder 134 = .ok (.iconst 0, 1) := by decide +kernel
theorem dX7_readOrder_135 : decode cX7_readOrder 135 = .ok (.istore_n 1, 1) := by decide +kernel
theorem dX7_readOrder_136 : decode cX7_readOrder 136 = .ok (.aload_n 0, 1) := by decide +kernel
theorem dX7_readOrder_137 : decode cX7_readOrder 137 = .ok (.getfield 213, 3) := by decide +kernel
theorem dX7_readOrder_140 : decode cX7_readOrder 140 = .ok (.ifCond .ne 7, 3) := by decide +kernel
theorem dX7_readOrder_143 : decode cX7_readOrder 143 = .ok (.iconst 3, 1) := by decide +kernel
theorem dX7_readOrder_144 : decode cX7_readOrder 144 = .ok (.goto 16, 3) := by decide +kernel
theorem dX7_readOrder_147 : decode cX7_readOrder 147 = .ok (.aload_n 0, 1) := by decide +kernel
theorem dX7_readOrder_148 : decode cX7_readOrder 148 = .ok (.getfield 213, 3) := by decide +kernel
theorem dX7_readOrder_151 : decode cX7_readOrder 151 = .ok (.iconst 1, 1) := by decide +kernel
theorem dX7_readOrder_152 : decode cX7_readOrder 152 = .ok (.if_icmp .ne 7, 3) := by decide +kernel
theorem dX7_readOrder_155 : decode cX7_readOrder 155 = .ok (.iconst 4, 1) := by decide +kernel
theorem dX7_readOrder_156 : decode cX7_readOrder 156 = .ok (.goto 4, 3) := by decide +kernel
theorem dX7_readOrder_159 : decode cX7_readOrder 159 = .ok (.iload_n 1, 1) := by decide +kernel
theorem dX7_readOrder_160 : decode cX7_readOrder 160 = .ok (.istore_n 2, 1) := by decide +kernel
theorem dX7_readOrder_161 : decode cX7_readOrder 161 = .ok (.iload_n 2, 1) := by decide +kernel
theorem dX7_readOrder_162 : decode cX7_readOrder 162 = .ok (.ifCond .le 23, 3) := by decide +kernel
theorem dX7_readOrder_165 : decode cX7_readOrder 165 = .ok (.aload_n 0, 1) := by decide +kernel
theorem dX7_readOrder_166 : decode cX7_readOrder 166 = .ok (.bipush 32, 2) := by decide +kernel
theorem dX7_readOrder_168 : decode cX7_readOrder 168 = .ok (.bipush 32, 2) := by decide +kernel
theorem dX7_readOrder_170 : decode cX7_readOrder 170 = .ok (.invokevirtual 201, 3) := by decide +kernel
theorem dX7_readOrder_173 : decode cX7_readOrder 173 = .ok (.ifCond .ne 12, 3) := by decide +kernel
theorem dX7_readOrder_176 : decode cX7_readOrder 176 = .ok (.aload_n 0, 1) := by decide +kernel
theorem dX7_readOrder_177 : decode cX7_readOrder 177 = .ok (.aload_n 0, 1) := by decide +kernel
theorem dX7_readOrder_178 : decode cX7_readOrder 178 = .ok (.getfield 194, 3) := by decide +kernel
theorem dX7_readOrder_181 : decode cX7_readOrder 181 = .ok (.invokevirtual 204, 3) := by decide +kernel
theorem dX7_readOrder_184 : decode cX7_readOrder 184 = .ok (.return_, 1) := by decide +kernel
theorem dX7_readOrder_185 : decode cX7_readOrder 185 = .ok (.iload_n 2, 1) := by decide +kernel
theorem dX7_readOrder_186 : decode cX7_readOrder 186 = .ok (.ifCond .le 7, 3) := by decide +kernel
theorem dX7_readOrder_189 : decode cX7_readOrder 189 = .ok (.iconst 1, 1) := by decide +kernel
theorem dX7_readOrder_190 : decode cX7_readOrder 190 = .ok (.goto 4, 3) := by decide +kernel
theorem dX7_readOrder_193 : decode cX7_readOrder 193 = .ok (.iconst 0, 1) := by decide +kernel
theorem dX7_readOrder_194 : decode cX7_readOrder 194 = .ok (.istore_n 3, 1) := by decide +kernel
theorem dX7_readOrder_195 : decode cX7_readOrder 195 = .ok (.iload_n 3, 1) := by decide +kernel
theorem dX7_readOrder_196 : decode cX7_readOrder 196 = .ok (.ifCond .eq 59, 3) := by decide +kernel
theorem dX7_readOrder_199 : decode cX7_readOrder 199 = .ok (.aload_n 0, 1) := by decide +kernel
theorem dX7_readOrder_200 : decode cX7_readOrder 200 = .ok (.getfield 185, 3) := by decide +kernel
theorem dX7_readOrder_203 : decode cX7_readOrder 203 = .ok (.ifCond .ne 52, 3) := by decide +kernel
theorem dX7_readOrder_206 : decode cX7_readOrder 206 = .ok (.aload_n 0, 1) := by decide +kernel
theorem dX7_readOrder_207 : decode cX7_readOrder 207 = .ok (.dup, 1) := by decide +kernel
theorem dX7_readOrder_208 : decode cX7_readOrder 208 = .ok (.getfield 194, 3) := by decide +kernel
theorem dX7_readOrder_211 : decode cX7_readOrder 211 = .ok (.iconst 1, 1) := by decide +kernel
theorem dX7_readOrder_212 : decode cX7_readOrder 212 = .ok (.iadd, 1) := by decide +kernel
theorem dX7_readOrder_213 : decode cX7_readOrder 213 = .ok (.putfield 194, 3) := by decide +kernel
theorem dX7_readOrder_216 : decode cX7_readOrder 216 = .ok (.aload_n 0, 1) := by decide +kernel
theorem dX7_readOrder_217 : decode cX7_readOrder 217 = .ok (.invokevirtual 216, 3) := by decide +kernel
theorem dX7_readOrder_220 : decode cX7_readOrder 220 = .ok (.aload_n 0, 1) := by decide +kernel
theorem dX7_readOrder_221 : decode cX7_readOrder 221 = .ok (.getfield 185, 3) := by decide +kernel
theorem dX7_readOrder_224 : decode cX7_readOrder 224 = .ok (.ifCond .ne 26, 3) := by decide +kernel
theorem dX7_readOrder_227 : decode cX7_readOrder 227 = .ok (.aload_n 0, 1) := by decide +kernel
theorem dX7_readOrder_228 : decode cX7_readOrder 228 = .ok (.getfield 207, 3) := by decide +kernel
theorem dX7_readOrder_231 : decode cX7_readOrder 231 = .ok (.iload_n 2, 1) := by decide +kernel
theorem dX7_readOrder_232 : decode cX7_readOrder 232 = .ok (.if_icmp .ge 18, 3) := by decide +kernel
theorem dX7_readOrder_235 : decode cX7_readOrder 235 = .ok (.aload_n 0, 1) := by decide +kernel
theorem dX7_readOrder_236 : decode cX7_readOrder 236 = .ok (.bipush 44, 2) := by decide +kernel
theorem dX7_readOrder_238 : decode cX7_readOrder 238 = .ok (.bipush 44, 2) := by decide +kernel
theorem dX7_readOrder_240 : decode cX7_readOrder 240 = .ok (.invokevirtual 201, 3) := by decide +kernel
theorem dX7_readOrder_243 : decode cX7_readOrder 243 = .ok (.ifCond .eq 7, 3) := by decide +kernel
theorem dX7_readOrder_246 : decode cX7_readOrder 246 = .ok (.iconst 1, 1) := by decide +kernel
theorem dX7_readOrder_247 : decode cX7_readOrder 247 = .ok (.goto 4, 3) := by decide +kernel
theorem dX7_readOrder_250 : decode cX7_readOrder 250 = .ok (.iconst 0, 1) := by decide +kernel
theorem dX7_readOrder_251 : decode cX7_readOrder 251 = .ok (.istore_n 3, 1) := by decide +kernel
theorem dX7_readOrder_252 : decode cX7_readOrder 252 = .ok (.goto (-57), 3) := by decide +kernel
theorem dX7_readOrder_255 : decode cX7_readOrder 255 = .ok (.aload_n 0, 1) := by decide +kernel
theorem dX7_readOrder_256 : decode cX7_readOrder 256 = .ok (.getfield 185, 3) := by decide +kernel
theorem dX7_readOrder_259 : decode cX7_readOrder 259 = .ok (.ifCond .ne 30, 3) := by decide +kernel
theorem dX7_readOrder_262 : decode cX7_readOrder 262 = .ok (.aload_n 0, 1) := by decide +kernel
theorem dX7_readOrder_263 : decode cX7_readOrder 263 = .ok (.getfield 207, 3) := by decide +kernel
theorem dX7_readOrder_266 : decode cX7_readOrder 266 = .ok (.iload_n 1, 1) := by decide +kernel
theorem dX7_readOrder_267 : decode cX7_readOrder 267 = .ok (.if_icmp .lt 14, 3) := by decide +kernel
theorem dX7_readOrder_270 : decode cX7_readOrder 270 = .ok (.aload_n 0, 1) := by decide +kernel
theorem dX7_readOrder_271 : decode cX7_readOrder 271 = .ok (.bipush 59, 2) := by decide +kernel
theorem dX7_readOrder_273 : decode cX7_readOrder 273 = .ok (.bipush 59, 2) := by decide +kernel
theorem dX7_readOrder_275 : decode cX7_readOrder 275 = .ok (.invokevirtual 201, 3) := by decide +kernel
theorem dX7_readOrder_278 : decode cX7_readOrder 278 = .ok (.ifCond .ne 11, 3) := by decide +kernel
theorem dX7_readOrder_281 : decode cX7_readOrder 281 = .ok (.aload_n 0, 1) := by decide +kernel
theorem dX7_readOrder_282 : decode cX7_readOrder 282 = .ok (.aload_n 0, 1) := by decide +kernel
theorem dX7_readOrder_283 : decode cX7_readOrder 283 = .ok (.getfield 194, 3) := by decide +kernel
theorem dX7_readOrder_286 : decode cX7_readOrder 286 = .ok (.invokevirtual 204, 3) := by decide +kernel
theorem dX7_readOrder_289 : decode cX7_readOrder 289 = .ok (.aload_n 0, 1) := by decide +kernel
theorem dX7_readOrder_290 : decode cX7_readOrder 290 = .ok (.dup, 1) := by decide +kernel
theorem dX7_readOrder_291 : decode cX7_readOrder 291 = .ok (.getfield 194, 3) := by decide +kernel
theorem dX7_readOrder_294 : decode cX7_readOrder 294 = .ok (.iconst 1, 1) := by decide +kernel
theorem dX7_readOrder_295 : decode cX7_readOrder 295 = .ok (.iadd, 1) := by decide +kernel
theorem dX7_readOrder_296 : decode cX7_readOrder 296 = .ok (.putfield 194, 3) := by decide +kernel
theorem dX7_readOrder_299 : decode cX7_readOrder 299 = .ok (.return_, 1) := by decide +kernel
theorem dX7_doOrder_0 : decode cX7_doOrder 0 = .ok (.aload_n 0, 1) := by decide +kernel
theorem dX7_doOrder_1 : decode cX7_doOrder 1 = .ok (.getfield 207, 3) := by decide +kernel
theorem dX7_doOrder_4 : decode cX7_doOrder 4 = .ok (.iconst 1, 1) := by decide +kernel
theorem dX7_doOrder_5 : decode cX7_doOrder 5 = .ok (.if_icmp .le 12, 3) := by decide +kernel
theorem dX7_doOrder_8 : decode cX7_doOrder 8 = .ok (.aload_n 0, 1) := by decide +kernel
theorem dX7_doOrder_9 : decode cX7_doOrder 9 = .ok (.getfield 22, 3) := by decide +kernel
theorem dX7_doOrder_12 : decode cX7_doOrder 12 = .ok (.iconst 1, 1) := by decide +kernel
theorem dX7_doOrder_13 : decode cX7_doOrder 13 = .ok (.iaload, 1) := by decide +kernel
theorem dX7_doOrder_14 : decode cX7_doOrder 14 = .ok (.goto 4, 3) := by decide +kernel
theorem dX7_doOrder_17 : decode cX7_doOrder 17 = .ok (.iconst (-1), 1) := by decide +kernel
theorem dX7_doOrder_18 : decode cX7_doOrder 18 = .ok (.istore_n 1, 1) := by decide +kernel
theorem dX7_doOrder_19 : decode cX7_doOrder 19 = .ok (.aload_n 0, 1) := by decide +kernel
theorem dX7_doOrder_20 : decode cX7_doOrder 20 = .ok (.getfield 207, 3) := by decide +kernel
theorem dX7_doOrder_23 : decode cX7_doOrder 23 = .ok (.iconst 2, 1) := by decide +kernel
theorem dX7_doOrder_24 : decode cX7_doOrder 24 = .ok (.if_icmp .le 12, 3) := by decide +kernel
theorem dX7_doOrder_27 : decode cX7_doOrder 27 = .ok (.aload_n 0, 1) := by decide +kernel
theorem dX7_doOrder_28 : decode cX7_doOrder 28 = .ok (.getfield 22, 3) := by decide +kernel
theorem dX7_doOrder_31 : decode cX7_doOrder 31 = .ok (.iconst 2, 1) := by decide +kernel
theorem dX7_doOrder_32 : decode cX7_doOrder 32 = .ok (.iaload, 1) := by decide +kernel
theorem dX7_doOrder_33 : decode cX7_doOrder 33 = .ok (.goto 4, 3) := by decide +kernel
theorem dX7_doOrder_36 : decode cX7_doOrder 36 = .ok (.iconst (-1), 1) := by decide +kernel
theorem dX7_doOrder_37 : decode cX7_doOrder 37 = .ok (.istore_n 2, 1) := by decide +kernel
theorem dX7_doOrder_38 : decode cX7_doOrder 38 = .ok (.aload_n 0, 1) := by decide +kernel
theorem dX7_doOrder_39 : decode cX7_doOrder 39 = .ok (.getfield 207, 3) := by decide +kernel
theorem dX7_doOrder_42 : decode cX7_doOrder 42 = .ok (.iconst 3, 1) := by decide +kernel
theorem dX7_doOrder_43 : decode cX7_doOrder 43 = .ok (.if_icmp .le 12, 3) := by decide +kernel
theorem dX7_doOrder_46 : decode cX7_doOrder 46 = .ok (.aload_n 0, 1) := by decide +kernel
theorem dX7_doOrder_47 : decode cX7_doOrder 47 = .ok (.getfield 22, 3) := by decide +kernel
theorem dX7_doOrder_50 : decode cX7_doOrder 50 = .ok (.iconst 3, 1) := by decide +kernel
theorem dX7_doOrder_51 : decode cX7_doOrder 51 = .ok (.iaload, 1) := by decide +kernel
theorem dX7_doOrder_52 : decode cX7_doOrder 52 = .ok (.goto 4, 3) := by decide +kernel
theorem dX7_doOrder_55 : decode cX7_doOrder 55 = .ok (.iconst (-1), 1) := by decide +kernel
theorem dX7_doOrder_56 : decode cX7_doOrder 56 = .ok (.istore_n 3, 1) := by decide +kernel
theorem dX7_doOrder_57 : decode cX7_doOrder 57 = .ok (.aload_n 0, 1) := by decide +kernel
theorem dX7_doOrder_58 : decode cX7_doOrder 58 = .ok (.getfield 213, 3) := by decide +kernel
theorem dX7_doOrder_61 : decode cX7_doOrder 61 = .ok (.ifCond .ne 18, 3) := by decide +kernel
theorem dX7_doOrder_64 : decode cX7_doOrder 64 = .ok (.aload_n 0, 1) := by decide +kernel
theorem dX7_doOrder_65 : decode cX7_doOrder 65 = .ok (.aload_n 0, 1) := by decide +kernel
theorem dX7_doOrder_66 : decode cX7_doOrder 66 = .ok (.getfield 22, 3) := by decide +kernel
theorem dX7_doOrder_69 : decode cX7_doOrder 69 = .ok (.iconst 0, 1) := by decide +kernel
theorem dX7_doOrder_70 : decode cX7_doOrder 70 = .ok (.iaload, 1) := by decide +kernel
theorem dX7_doOrder_71 : decode cX7_doOrder 71 = .ok (.iload_n 1, 1) := by decide +kernel
theorem dX7_doOrder_72 : decode cX7_doOrder 72 = .ok (.iload_n 2, 1) := by decide +kernel
theorem dX7_doOrder_73 : decode cX7_doOrder 73 = .ok (.invokevirtual 137, 3) := by decide +kernel
theorem dX7_doOrder_76 : decode cX7_doOrder 76 = .ok (.goto 67, 3) := by decide +kernel
theorem dX7_doOrder_79 : decode cX7_doOrder 79 = .ok (.aload_n 0, 1) := by decide +kernel
theorem dX7_doOrder_80 : decode cX7_doOrder 80 = .ok (.getfield 213, 3) := by decide +kernel
theorem dX7_doOrder_83 : decode cX7_doOrder 83 = .ok (.iconst 1, 1) := by decide +kernel
theorem dX7_doOrder_84 : decode cX7_doOrder 84 = .ok (.if_icmp .ne 19, 3) := by decide +kernel
theorem dX7_doOrder_87 : decode cX7_doOrder 87 = .ok (.aload_n 0, 1) := by decide +kernel
theorem dX7_doOrder_88 : decode cX7_doOrder 88 = .ok (.aload_n 0, 1) := by decide +kernel
theorem dX7_doOrder_89 : decode cX7_doOrder 89 = .ok (.getfield 22, 3) := by decide +kernel
theorem dX7_doOrder_92 : decode cX7_doOrder 92 = .ok (.iconst 0, 1) := by decide +kernel
theorem dX7_doOrder_93 : decode cX7_doOrder 93 = .ok (.iaload, 1) := by decide +kernel
theorem dX7_doOrder_94 : decode cX7_doOrder 94 = .ok (.iload_n 1, 1) := by decide +kernel
theorem dX7_doOrder_95 : decode cX7_doOrder 95 = .ok (.iload_n 2, 1) := by decide +kernel
theorem dX7_doOrder_96 : decode cX7_doOrder 96 = .ok (.iload_n 3, 1) := by decide +kernel
theorem dX7_doOrder_97 : decode cX7_doOrder 97 = .ok (.invokevirtual 141, 3) := by decide +kernel
theorem dX7_doOrder_100 : decode cX7_doOrder 100 = .ok (.goto 43, 3) := by decide +kernel
theorem dX7_doOrder_103 : decode cX7_doOrder 103 = .ok (.aload_n 0, 1) := by decide +kernel
theorem dX7_doOrder_104 : decode cX7_doOrder 104 = .ok (.getfield 213, 3) := by decide +kernel
theorem dX7_doOrder_107 : decode cX7_doOrder 107 = .ok (.iconst 2, 1) := by decide +kernel
theorem dX7_doOrder_108 : decode cX7_doOrder 108 = .ok (.if_icmp .ne 16, 3) := by decide +kernel
theorem dX7_doOrder_111 : decode cX7_doOrder 111 = .ok (.aload_n 0, 1) := by decide +kernel
theorem dX7_doOrder_112 : decode cX7_doOrder 112 = .ok (.aload_n 0, 1) := by decide +kernel
theorem dX7_doOrder_113 : decode cX7_doOrder 113 = .ok (.getfield 22, 3) := by decide +kernel
theorem dX7_doOrder_116 : decode cX7_doOrder 116 = .ok (.iconst 0, 1) := by decide +kernel
theorem dX7_doOrder_117 : decode cX7_doOrder 117 = .ok (.iaload, 1) := by decide +kernel
theorem dX7_doOrder_118 : decode cX7_doOrder 118 = .ok (.invokevirtual 145, 3) := by decide +kernel
theorem dX7_doOrder_121 : decode cX7_doOrder 121 = .ok (.goto 22, 3) := by decide +kernel
theorem dX7_doOrder_124 : decode cX7_doOrder 124 = .ok (.aload_n 0, 1) := by decide +kernel
theorem dX7_doOrder_125 : decode cX7_doOrder 125 = .ok (.getfield 213, 3) := by decide +kernel
theorem dX7_doOrder_128 : decode cX7_doOrder 128 = .ok (.iconst 3, 1) := by decide +kernel
theorem dX7_doOrder_129 : decode cX7_doOrder 129 = .ok (.if_icmp .ne 10, 3) := by decide +kernel
theorem dX7_doOrder_132 : decode cX7_doOrder 132 = .ok (.aload_n 0, 1) := by decide +kernel
theorem dX7_doOrder_133 : decode cX7_doOrder 133 = .ok (.invokevirtual 148, 3) := by decide +kernel
theorem dX7_doOrder_136 : decode cX7_doOrder 136 = .ok (.goto 7, 3) := by decide +kernel
theorem dX7_doOrder_139 : decode cX7_doOrder 139 = .ok (.aload_n 0, 1) := by decide +kernel
theorem dX7_doOrder_140 : decode cX7_doOrder 140 = .ok (.invokevirtual 151, 3) := by decide +kernel
theorem dX7_doOrder_143 : decode cX7_doOrder 143 = .ok (.ireturn, 1) := by decide +kernel
theorem dX7_go_0 : decode cX7_go 0 = .ok (.aload_n 0, 1) := by decide +kernel
theorem dX7_go_1 : decode cX7_go 1 = .ok (.iconst 0, 1) := by decide +kernel
theorem dX7_go_2 : decode cX7_go 2 = .ok (.putfield 188, 3) := by decide +kernel
theorem dX7_go_5 : decode cX7_go 5 = .ok (.aload_n 0, 1) := by decide +kernel
theorem dX7_go_6 : decode cX7_go 6 = .ok (.iconst 0, 1) := by decide +kernel
theorem dX7_go_7 : decode cX7_go 7 = .ok (.putfield 185, 3) := by decide +kernel
theorem dX7_go_10 : decode cX7_go 10 = .ok (.aload_n 0, 1) := by decide +kernel
theorem dX7_go_11 : decode cX7_go 11 = .ok (.iconst 0, 1) := by decide +kernel
theorem dX7_go_12 : decode cX7_go 12 = .ok (.putfield 191, 3) := by decide +kernel
theorem dX7_go_15 : decode cX7_go 15 = .ok (.iconst 0, 1) := by decide +kernel
theorem dX7_go_16 : decode cX7_go 16 = .ok (.istore_n 1, 1) := by decide +kernel
theorem dX7_go_17 : decode cX7_go 17 = .ok (.aload_n 0, 1) := by decide +kernel
theorem dX7_go_18 : decode cX7_go 18 = .ok (.getfield 188, 3) := by decide +kernel
theorem dX7_go_21 : decode cX7_go 21 = .ok (.aload_n 0, 1) := by decide +kernel
theorem dX7_go_22 : decode cX7_go 22 = .ok (.getfield 182, 3) := by decide +kernel
theorem dX7_go_25 : decode cX7_go 25 = .ok (.if_icmp .ge 80, 3) := by decide +kernel
theorem dX7_go_28 : decode cX7_go 28 = .ok (.aload_n 0, 1) := by decide +kernel
theorem dX7_go_29 : decode cX7_go 29 = .ok (.getfield 185, 3) := by decide +kernel
theorem dX7_go_32 : decode cX7_go 32 = .ok (.ifCond .ne 73, 3) := by decide +kernel
theorem dX7_go_35 : decode cX7_go 35 = .ok (.aload_n 0, 1) := by decide +kernel
theorem dX7_go_36 : decode cX7_go 36 = .ok (.invokevirtual 219, 3) := by decide +kernel
theorem dX7_go_39 : decode cX7_go 39 = .ok (.aload_n 0, 1) := by decide +kernel
theorem dX7_go_40 : decode cX7_go 40 = .ok (.getfield 185, 3) := by decide +kernel
theorem dX7_go_43 : decode cX7_go 43 = .ok (.ifCond .ne 34, 3) := by decide +kernel
theorem dX7_go_46 : decode cX7_go 46 = .ok (.aload_n 0, 1) := by decide +kernel
theorem dX7_go_47 : decode cX7_go 47 = .ok (.invokevirtual 222, 3) := by decide +kernel
theorem dX7_go_50 : decode cX7_go 50 = .ok (.istore_n 2, 1) := by decide +kernel
theorem dX7_go_51 : decode cX7_go 51 = .ok (.aload_n 0, 1) := by decide +kernel
theorem dX7_go_52 : decode cX7_go 52 = .ok (.iload_n 2, 1) := by decide +kernel
theorem dX7_go_53 : decode cX7_go 53 = .ok (.ifCond .ge 7, 3) := by decide +kernel
theorem dX7_go_56 : decode cX7_go 56 = .ok (.iconst 2, 1) := by decide +kernel
theorem dX7_go_57 : decode cX7_go 57 = .ok (.goto 4, 3) := by decide +kernel
theorem dX7_go_60 : decode cX7_go 60 = .ok (.iconst 0, 1) := by decide +kernel
theorem dX7_go_61 : decode cX7_go 61 = .ok (.putfield 185, 3) := by decide +kernel
theorem dX7_go_64 : decode cX7_go 64 = .ok (.aload_n 0, 1) := by decide +kernel
theorem dX7_go_65 : decode cX7_go 65 = .ok (.iload_n 2, 1) := by decide +kernel
theorem dX7_go_66 : decode cX7_go 66 = .ok (.ifCond .ge 7, 3) := by decide +kernel
theorem dX7_go_69 : decode cX7_go 69 = .ok (.iload_n 2, 1) := by decide +kernel
theorem dX7_go_70 : decode cX7_go 70 = .ok (.goto 4, 3) := by decide +kernel
theorem dX7_go_73 : decode cX7_go 73 = .ok (.iconst 0, 1) := by decide +kernel
theorem dX7_go_74 : decode cX7_go 74 = .ok (.putfield 191, 3) := by decide +kernel
theorem dX7_go_77 : decode cX7_go 77 = .ok (.aload_n 0, 1) := by decide +kernel
theorem dX7_go_78 : decode cX7_go 78 = .ok (.aload_n 0, 1) := by decide +kernel
theorem dX7_go_79 : decode cX7_go 79 = .ok (.getfield 185, 3) := by decide +kernel
theorem dX7_go_82 : decode cX7_go 82 = .ok (.ifCond .ne 10, 3) := by decide +kernel
theorem dX7_go_85 : decode cX7_go 85 = .ok (.aload_n 0, 1) := by decide +kernel
theorem dX7_go_86 : decode cX7_go 86 = .ok (.getfield 194, 3) := by decide +kernel
theorem dX7_go_89 : decode cX7_go 89 = .ok (.goto 7, 3) := by decide +kernel
theorem dX7_go_92 : decode cX7_go 92 = .ok (.aload_n 0, 1) := by decide +kernel
theorem dX7_go_93 : decode cX7_go 93 = .ok (.getfield 188, 3) := by decide +kernel
theorem dX7_go_96 : decode cX7_go 96 = .ok (.putfield 188, 3) := by decide +kernel
theorem dX7_go_99 : decode cX7_go 99 = .ok (.iinc 1 1, 3) := by decide +kernel
theorem dX7_go_102 : decode cX7_go 102 = .ok (.goto (-85), 3) := by decide +kernel
theorem dX7_go_105 : decode cX7_go 105 = .ok (.iload_n 1, 1) := by decide +kernel
theorem dX7_go_106 : decode cX7_go 106 = .ok (.ireturn, 1) := by decide +kernel
theorem dX7_fault_0 : decode cX7_fault 0 = .ok (.iload_n 1, 1) := by decide +kernel
theorem dX7_fault_1 : decode cX7_fault 1 = .ok (.iconst 0, 1) := by decide +kernel
theorem dX7_fault_2 : decode cX7_fault 2 = .ok (.iconst 2, 1) := by decide +kernel
theorem dX7_fault_3 : decode cX7_fault 3 = .ok (.invokestatic 32, 3) := by decide +kernel
theorem dX7_fault_6 : decode cX7_fault 6 = .ok (.ifCond .ne 6, 3) := by decide +kernel
theorem dX7_fault_9 : decode cX7_fault 9 = .ok (.ldc 109, 2) := by decide +kernel
theorem dX7_fault_11 : decode cX7_fault 11 = .ok (.ireturn, 1) := by decide +kernel
theorem dX7_fault_12 : decode cX7_fault 12 = .ok (.aload_n 0, 1) := by decide +kernel
theorem dX7_fault_13 : decode cX7_fault 13 = .ok (.invokevirtual 131, 3) := by decide +kernel
theorem dX7_fault_16 : decode cX7_fault 16 = .ok (.aload_n 0, 1) := by decide +kernel
theorem dX7_fault_17 : decode cX7_fault 17 = .ok (.invokevirtual 225, 3) := by decide +kernel
theorem dX7_fault_20 : decode cX7_fault 20 = .ok (.istore_n 2, 1) := by decide +kernel
theorem dX7_fault_21 : decode cX7_fault 21 = .ok (.aload_n 0, 1) := by decide +kernel
theorem dX7_fault_22 : decode cX7_fault 22 = .ok (.invokevirtual 25, 3) := by decide +kernel
theorem dX7_fault_25 : decode cX7_fault 25 = .ok (.aload_n 0, 1) := by decide +kernel
theorem dX7_fault_26 : decode cX7_fault 26 = .ok (.getfield 185, 3) := by decide +kernel
theorem dX7_fault_29 : decode cX7_fault 29 = .ok (.ifCond .ne 8, 3) := by decide +kernel
theorem dX7_fault_32 : decode cX7_fault 32 = .ok (.ldc 157, 2) := by decide +kernel
theorem dX7_fault_34 : decode cX7_fault 34 = .ok (.goto 30, 3) := by decide +kernel
theorem dX7_fault_37 : decode cX7_fault 37 = .ok (.iload_n 1, 1) := by decide +kernel
theorem dX7_fault_38 : decode cX7_fault 38 = .ok (.ifCond .ne 10, 3) := by decide +kernel
theorem dX7_fault_41 : decode cX7_fault 41 = .ok (.aload_n 0, 1) := by decide +kernel
theorem dX7_fault_42 : decode cX7_fault 42 = .ok (.getfield 188, 3) := by decide +kernel
theorem dX7_fault_45 : decode cX7_fault 45 = .ok (.goto 19, 3) := by decide +kernel
theorem dX7_fault_48 : decode cX7_fault 48 = .ok (.iload_n 1, 1) := by decide +kernel
theorem dX7_fault_49 : decode cX7_fault 49 = .ok (.iconst 1, 1) := by decide +kernel
theorem dX7_fault_50 : decode cX7_fault 50 = .ok (.if_icmp .ne 10, 3) := by decide +kernel
theorem dX7_fault_53 : decode cX7_fault 53 = .ok (.aload_n 0, 1) := by decide +kernel
theorem dX7_fault_54 : decode cX7_fault 54 = .ok (.getfield 185, 3) := by decide +kernel
theorem dX7_fault_57 : decode cX7_fault 57 = .ok (.goto 7, 3) := by decide +kernel
theorem dX7_fault_60 : decode cX7_fault 60 = .ok (.aload_n 0, 1) := by decide +kernel
theorem dX7_fault_61 : decode cX7_fault 61 = .ok (.getfield 191, 3) := by decide +kernel
theorem dX7_fault_64 : decode cX7_fault 64 = .ok (.ireturn, 1) := by decide +kernel
theorem dX7_play_0 : decode cX7_play 0 = .ok (.aload_n 0, 1) := by decide +kernel
theorem dX7_play_1 : decode cX7_play 1 = .ok (.invokevirtual 131, 3) := by decide +kernel
theorem dX7_play_4 : decode cX7_play 4 = .ok (.aload_n 0, 1) := by decide +kernel
theorem dX7_play_5 : decode cX7_play 5 = .ok (.invokevirtual 225, 3) := by decide +kernel
theorem dX7_play_8 : decode cX7_play 8 = .ok (.istore_n 1, 1) := by decide +kernel
theorem dX7_play_9 : decode cX7_play 9 = .ok (.aload_n 0, 1) := by decide +kernel
theorem dX7_play_10 : decode cX7_play 10 = .ok (.aload_n 0, 1) := by decide +kernel
theorem dX7_play_11 : decode cX7_play 11 = .ok (.getfield 185, 3) := by decide +kernel
theorem dX7_play_14 : decode cX7_play 14 = .ok (.ifCond .ne 7, 3) := by decide +kernel
theorem dX7_play_17 : decode cX7_play 17 = .ok (.iload_n 1, 1) := by decide +kernel
theorem dX7_play_18 : decode cX7_play 18 = .ok (.goto 5, 3) := by decide +kernel
theorem dX7_play_21 : decode cX7_play 21 = .ok (.ldc 110, 2) := by decide +kernel
theorem dX7_play_23 : decode cX7_play 23 = .ok (.invokevirtual 134, 3) := by decide +kernel
theorem dX7_play_26 : decode cX7_play 26 = .ok (.ireturn, 1) := by decide +kernel
theorem dL_law_0 : decode cL_law 0 = .ok (.new 7, 3) := by decide +kernel
theorem dL_law_3 : decode cL_law 3 = .ok (.dup, 1) := by decide +kernel
theorem dL_law_4 : decode cL_law 4 = .ok (.invokespecial 9, 3) := by decide +kernel
theorem dL_law_7 : decode cL_law 7 = .ok (.astore_n 1, 1) := by decide +kernel
theorem dL_law_8 : decode cL_law 8 = .ok (.new 10, 3) := by decide +kernel
theorem dL_law_11 : decode cL_law 11 = .ok (.dup, 1) := by decide +kernel
theorem dL_law_12 : decode cL_law 12 = .ok (.invokespecial 12, 3) := by decide +kernel
theorem dL_law_15 : decode cL_law 15 = .ok (.astore_n 2, 1) := by decide +kernel
theorem dL_law_16 : decode cL_law 16 = .ok (.iconst 0, 1) := by decide +kernel
theorem dL_law_17 : decode cL_law 17 = .ok (.istore_n 3, 1) := by decide +kernel
theorem dL_law_18 : decode cL_law 18 = .ok (.iload_n 3, 1) := by decide +kernel
theorem dL_law_19 : decode cL_law 19 = .ok (.aload_n 0, 1) := by decide +kernel
theorem dL_law_20 : decode cL_law 20 = .ok (.arraylength, 1) := by decide +kernel
theorem dL_law_21 : decode cL_law 21 = .ok (.iconst 5, 1) := by decide +kernel
theorem dL_law_22 : decode cL_law 22 = .ok (.isub, 1) := by decide +kernel
theorem dL_law_23 : decode cL_law 23 = .ok (.if_icmp .gt 695, 3) := by decide +kernel
theorem dL_law_26 : decode cL_law 26 = .ok (.aload_n 0, 1) := by decide +kernel
theorem dL_law_27 : decode cL_law 27 = .ok (.iload_n 3, 1) := by decide +kernel
theorem dL_law_28 : decode cL_law 28 = .ok (.iaload, 1) := by decide +kernel
theorem dL_law_29 : decode cL_law 29 = .ok (.bipush 31, 2) := by decide +kernel
theorem dL_law_31 : decode cL_law 31 = .ok (.iand, 1) := by decide +kernel
theorem dL_law_32 : decode cL_law 32 = .ok (.tableswitch 680 0 21 #[104, 157, 180, 223, 276, 299, 312, 325, 358, 391, 424, 457, 490, 513, 536, 559, 572, 595, 608, 631, 644, 667], 104) := by decide +kernel
theorem dL_law_136 : decode cL_law 136 = .ok (.aload_n 1, 1) := by decide +kernel
theorem dL_law_137 : decode cL_law 137 = .ok (.aload_n 0, 1) := by decide +kernel
theorem dL_law_138 : decode cL_law 138 = .ok (.iload_n 3, 1) := by decide +kernel
theorem dL_law_139 : decode cL_law 139 = .ok (.iconst 1, 1) := by decide +kernel
theorem dL_law_140 : decode cL_law 140 = .ok (.iadd, 1) := by decide +kernel
theorem dL_law_141 : decode cL_law 141 = .ok (.iaload, 1) := by decide +kernel
theorem dL_law_142 : decode cL_law 142 = .ok (.aload_n 0, 1) := by decide +kernel
theorem dL_law_143 : decode cL_law 143 = .ok (.iload_n 3, 1) := by decide +kernel
theorem dL_law_144 : decode cL_law 144 = .ok (.iconst 2, 1) := by decide +kernel
theorem dL_law_145 : decode cL_law 145 = .ok (.iadd, 1) := by decide +kernel
theorem dL_law_146 : decode cL_law 146 = .ok (.iaload, 1) := by decide +kernel
theorem dL_law_147 : decode cL_law 147 = .ok (.aload_n 0, 1) := by decide +kernel
theorem dL_law_148 : decode cL_law 148 = .ok (.iload_n 3, 1) := by decide +kernel
theorem dL_law_149 : decode cL_law 149 = .ok (.iconst 3, 1) := by decide +kernel
theorem dL_law_150 : decode cL_law 150 = .ok (.iadd, 1) := by decide +kernel
theorem dL_law_151 : decode cL_law 151 = .ok (.iaload, 1) := by decide +kernel
theorem dL_law_152 : decode cL_law 152 = .ok (.aload_n 0, 1) := by decide +kernel
theorem dL_law_153 : decode cL_law 153 = .ok (.iload_n 3, 1) := by decide +kernel
theorem dL_law_154 : decode cL_law 154 = .ok (.iconst 4, 1) := by decide +kernel
theorem dL_law_155 : decode cL_law 155 = .ok (.iadd, 1) := by decide +kernel
theorem dL_law_156 : decode cL_law 156 = .ok (.iaload, 1) := by decide +kernel
theorem dL_law_157 : decode cL_law 157 = .ok (.invokevirtual 13, 3) := by decide +kernel
theorem dL_law_160 : decode cL_law 160 = .ok (.aload_n 2, 1) := by decide +kernel
theorem dL_law_161 : decode cL_law 161 = .ok (.aload_n 0, 1) := by decide +kernel
theorem dL_law_162 : decode cL_law 162 = .ok (.iload_n 3, 1) := by decide +kernel
theorem dL_law_163 : decode cL_law 163 = .ok (.iconst 1, 1) := by decide +kernel
theorem dL_law_164 : decode cL_law 164 = .ok (.iadd, 1) := by decide +kernel
theorem dL_law_165 : decode cL_law 165 = .ok (.iaload, 1) := by decide +kernel
theorem dL_law_166 : decode cL_law 166 = .ok (.aload_n 0, 1) := by decide +kernel
theorem dL_law_167 : decode cL_law 167 = .ok (.iload_n 3, 1) := by decide +kernel
theorem dL_law_168 : decode cL_law 168 = .ok (.iconst 2, 1) := by decide +kernel
theorem dL_law_169 : decode cL_law 169 = .ok (.iadd, 1) := by decide +kernel
theorem dL_law_170 : decode cL_law 170 = .ok (.iaload, 1) := by decide +kernel
theorem dL_law_171 : decode cL_law 171 = .ok (.aload_n 0, 1) := by decide +kernel
theorem dL_law_172 : decode cL_law 172 = .ok (.iload_n 3, 1) := by decide +kernel
theorem dL_law_173 : decode cL_law 173 = .ok (.iconst 3, 1) := by decide +kernel
theorem dL_law_174 : decode cL_law 174 = .ok (.iadd, 1) := by decide +kernel
theorem dL_law_175 : decode cL_law 175 = .ok (.iaload, 1) := by decide +kernel
theorem dL_law_176 : decode cL_law 176 = .ok (.aload_n 0, 1) := by decide +kernel
theorem dL_law_177 : decode cL_law 177 = .ok (.iload_n 3, 1) := by decide +kernel
theorem dL_law_178 : decode cL_law 178 = .ok (.iconst 4, 1) := by decide +kernel
theorem dL_law_179 : decode cL_law 179 = .ok (.iadd, 1) := by decide +kernel
theorem dL_law_180 : decode cL_law 180 = .ok (.iaload, 1) := by decide +kernel
theorem dL_law_181 : decode cL_law 181 = .ok (.invokevirtual 17, 3) := by decide +kernel
theorem dL_law_184 : decode cL_law 184 = .ok (.if_icmp .eq 528, 3) := by decide +kernel
theorem dL_law_187 : decode cL_law 187 = .ok (.iconst 0, 1) := by decide +kernel
theorem dL_law_188 : decode cL_law 188 = .ok (.ireturn, 1) := by decide +kernel
theorem dL_law_189 : decode cL_law 189 = .ok (.aload_n 1, 1) := by decide +kernel
theorem dL_law_190 : decode cL_law 190 = .ok (.aload_n 0, 1) := by decide +kernel
theorem dL_law_191 : decode cL_law 191 = .ok (.iload_n 3, 1) := by decide +kernel
theorem dL_law_192 : decode cL_law 192 = .ok (.iconst 1, 1) := by decide +kernel
theorem dL_law_193 : decode cL_law 193 = .ok (.iadd, 1) := by decide +kernel
theorem dL_law_194 : decode cL_law 194 = .ok (.iaload, 1) := by decide +kernel
theorem dL_law_195 : decode cL_law 195 = .ok (.invokevirtual 18, 3) := by decide +kernel
theorem dL_law_198 : decode cL_law 198 = .ok (.aload_n 2, 1) := by decide +kernel
theorem dL_law_199 : decode cL_law 199 = .ok (.aload_n 0, 1) := by decide +kernel
theorem dL_law_200 : decode cL_law 200 = .ok (.iload_n 3, 1) := by decide +kernel
theorem dL_law_201 : decode cL_law 201 = .ok (.iconst 1, 1) := by decide +kernel
theorem dL_law_202 : decode cL_law 202 = .ok (.iadd, 1) := by decide +kernel
theorem dL_law_203 : decode cL_law 203 = .ok (.iaload, 1) := by decide +kernel
theorem dL_law_204 : decode cL_law 204 = .ok (.invokevirtual 22, 3) := by decide +kernel
theorem dL_law_207 : decode cL_law 207 = .ok (.if_icmp .eq 505, 3) := by decide +kernel
theorem dL_law_210 : decode cL_law 210 = .ok (.iconst 0, 1) := by decide +kernel
theorem dL_law_211 : decode cL_law 211 = .ok (.ireturn, 1) := by decide +kernel
theorem dL_law_212 : decode cL_law 212 = .ok (.aload_n 1, 1) := by decide +kernel
theorem dL_law_213 : decode cL_law 213 = .ok (.aload_n 0, 1) := by decide +kernel
theorem dL_law_214 : decode cL_law 214 = .ok (.iload_n 3, 1) := by decide +kernel
theorem dL_law_215 : decode cL_law 215 = .ok (.iconst 1, 1) := by decide +kernel
theorem dL_law_216 : decode cL_law 216 = .ok (.iadd, 1) := by decide +kernel
theorem dL_law_217 : decode cL_law 217 = .ok (.iaload, 1) := by decide +kernel
theorem dL_law_218 : decode cL_law 218 = .ok (.aload_n 0, 1) := by decide +kernel
theorem dL_law_219 : decode cL_law 219 = .ok (.iload_n 3, 1) := by decide +kernel
theorem dL_law_220 : decode cL_law 220 = .ok (.iconst 2, 1) := by decide +kernel
theorem dL_law_221 : decode cL_law 221 = .ok (.iadd, 1) := by decide +kernel
theorem dL_law_222 : decode cL_law 222 = .ok (.iaload, 1) := by decide +kernel
theorem dL_law_223 : decode cL_law 223 = .ok (.aload_n 0, 1) := by decide +kernel
theorem dL_law_224 : decode cL_law 224 = .ok (.iload_n 3, 1) := by decide +kernel
theorem dL_law_225 : decode cL_law 225 = .ok (.iconst 3, 1) := by decide +kernel
theorem dL_law_226 : decode cL_law 226 = .ok (.iadd, 1) := by decide +kernel
theorem dL_law_227 : decode cL_law 227 = .ok (.iaload, 1) := by decide +kernel
theorem dL_law_228 : decode cL_law 228 = .ok (.invokevirtual 23, 3) := by decide +kernel
theorem dL_law_231 : decode cL_law 231 = .ok (.aload_n 2, 1) := by decide +kernel
theorem dL_law_232 : decode cL_law 232 = .ok (.aload_n 0, 1) := by decide +kernel
theorem dL_law_233 : decode cL_law 233 = .ok (.iload_n 3, 1) := by decide +kernel
theorem dL_law_234 : decode cL_law 234 = .ok (.iconst 1, 1) := by decide +kernel
theorem dL_law_235 : decode cL_law 235 = .ok (.iadd, 1) := by decide +kernel
theorem dL_law_236 : decode cL_law 236 = .ok (.iaload, 1) := by decide +kernel
theorem dL_law_237 : decode cL_law 237 = .ok (.aload_n 0, 1) := by decide +kernel
theorem dL_law_238 : decode cL_law 238 = .ok (.iload_n 3, 1) := by decide +kernel
theorem dL_law_239 : decode cL_law 239 = .ok (.iconst 2, 1) := by decide +kernel
theorem dL_law_240 : decode cL_law 240 = .ok (.iadd, 1) := by decide +kernel
theorem dL_law_241 : decode cL_law 241 = .ok (.iaload, 1) := by decide +kernel
theorem dL_law_242 : decode cL_law 242 = .ok (.aload_n 0, 1) := by decide +kernel
theorem dL_law_243 : decode cL_law 243 = .ok (.iload_n 3, 1) := by decide +kernel
theorem dL_law_244 : decode cL_law 244 = .ok (.iconst 3, 1) := by decide +kernel
theorem dL_law_245 : decode cL_law 245 = .ok (.iadd, 1) := by decide +kernel
theorem dL_law_246 : decode cL_law 246 = .ok (.iaload, 1) := by decide +kernel
theorem dL_law_247 : decode cL_law 247 = .ok (.invokevirtual 27, 3) := by decide +kernel
theorem dL_law_250 : decode cL_law 250 = .ok (.if_icmp .eq 462, 3) := by decide +kernel
theorem dL_law_253 : decode cL_law 253 = .ok (.iconst 0, 1) := by decide +kernel
theorem dL_law_254 : decode cL_law 254 = .ok (.ireturn, 1) := by decide +kernel
theorem dL_law_255 : decode cL_law 255 = .ok (.aload_n 1, 1) := by decide +kernel
theorem dL_law_256 : decode cL_law 256 = .ok (.aload_n 0, 1) := by decide +kernel
theorem dL_law_257 : decode cL_law 257 = .ok (.iload_n 3, 1) := by decide +kernel
theorem dL_law_258 : decode cL_law 258 = .ok (.iconst 1, 1) := by decide +kernel
theorem dL_law_259 : decode cL_law 259 = .ok (.iadd, 1) := by decide +kernel
theorem dL_law_260 : decode cL_law 260 = .ok (.iaload, 1) := by decide +kernel
theorem dL_law_261 : decode cL_law 261 = .ok (.aload_n 0, 1) := by decide +kernel
theorem dL_law_262 : decode cL_law 262 = .ok (.iload_n 3, 1) := by decide +kernel
theorem dL_law_263 : decode cL_law 263 = .ok (.iconst 2, 1) := by decide +kernel
theorem dL_law_264 : decode cL_law 264 = .ok (.iadd, 1) := by decide +kernel
theorem dL_law_265 : decode cL_law 265 = .ok (.iaload, 1) := by decide +kernel
theorem dL_law_266 : decode cL_law 266 = .ok (.aload_n 0, 1) := by decide +kernel
theorem dL_law_267 : decode cL_law 267 = .ok (.iload_n 3, 1) := by decide +kernel
theorem dL_law_268 : decode cL_law 268 = .ok (.iconst 3, 1) := by decide +kernel
theorem dL_law_269 : decode cL_law 269 = .ok (.iadd, 1) := by decide +kernel
theorem dL_law_270 : decode cL_law 270 = .ok (.iaload, 1) := by decide +kernel
theorem dL_law_271 : decode cL_law 271 = .ok (.aload_n 0, 1) := by decide +kernel
theorem dL_law_272 : decode cL_law 272 = .ok (.iload_n 3, 1) := by decide +kernel
theorem dL_law_273 : decode cL_law 273 = .ok (.iconst 4, 1) := by decide +kernel
theorem dL_law_274 : decode cL_law 274 = .ok (.iadd, 1) := by decide +kernel
theorem dL_law_275 : decode cL_law 275 = .ok (.iaload, 1) := by decide +kernel
theorem dL_law_276 : decode cL_law 276 = .ok (.invokevirtual 28, 3) := by decide +kernel
theorem dL_law_279 : decode cL_law 279 = .ok (.aload_n 2, 1) := by decide +kernel
theorem dL_law_280 : decode cL_law 280 = .ok (.aload_n 0, 1) := by decide +kernel
theorem dL_law_281 : decode cL_law 281 = .ok (.iload_n 3, 1) := by decide +kernel
theorem dL_law_282 : decode cL_law 282 = .ok (.iconst 1, 1) := by decide +kernel
theorem dL_law_283 : decode cL_law 283 = .ok (.iadd, 1) := by decide +kernel
theorem dL_law_284 : decode cL_law 284 = .ok (.iaload, 1) := by decide +kernel
theorem dL_law_285 : decode cL_law 285 = .ok (.aload_n 0, 1) := by decide +kernel
theorem dL_law_286 : decode cL_law 286 = .ok (.iload_n 3, 1) := by decide +kernel
theorem dL_law_287 : decode cL_law 287 = .ok (.iconst 2, 1) := by decide +kernel
theorem dL_law_288 : decode cL_law 288 = .ok (.iadd, 1) := by decide +kernel
theorem dL_law_289 : decode cL_law 289 = .ok (.iaload, 1) := by decide +kernel
theorem dL_law_290 : decode cL_law 290 = .ok (.aload_n 0, 1) := by decide +kernel
theorem dL_law_291 : decode cL_law 291 = .ok (.iload_n 3, 1) := by decide +kernel
theorem dL_law_292 : decode cL_law 292 = .ok (.iconst 3, 1) := by decide +kernel
theorem dL_law_293 : decode cL_law 293 = .ok (.iadd, 1) := by decide +kernel
theorem dL_law_294 : decode cL_law 294 = .ok (.iaload, 1) := by decide +kernel
theorem dL_law_295 : decode cL_law 295 = .ok (.aload_n 0, 1) := by decide +kernel
theorem dL_law_296 : decode cL_law 296 = .ok (.iload_n 3, 1) := by decide +kernel
theorem dL_law_297 : decode cL_law 297 = .ok (.iconst 4, 1) := by decide +kernel
theorem dL_law_298 : decode cL_law 298 = .ok (.iadd, 1) := by decide +kernel
theorem dL_law_299 : decode cL_law 299 = .ok (.iaload, 1) := by decide +kernel
theorem dL_law_300 : decode cL_law 300 = .ok (.invokevirtual 31, 3) := by decide +kernel
theorem dL_law_303 : decode cL_law 303 = .ok (.if_icmp .eq 409, 3) := by decide +kernel
theorem dL_law_306 : decode cL_law 306 = .ok (.iconst 0, 1) := by decide +kernel
theorem dL_law_307 : decode cL_law 307 = .ok (.ireturn, 1) := by decide +kernel
theorem dL_law_308 : decode cL_law 308 = .ok (.aload_n 1, 1) := by decide +kernel
theorem dL_law_309 : decode cL_law 309 = .ok (.aload_n 0, 1) := by decide +kernel
theorem dL_law_310 : decode cL_law 310 = .ok (.iload_n 3, 1) := by decide +kernel
theorem dL_law_311 : decode cL_law 311 = .ok (.iconst 1, 1) := by decide +kernel
theorem dL_law_312 : decode cL_law 312 = .ok (.iadd, 1) := by decide +kernel
theorem dL_law_313 : decode cL_law 313 = .ok (.iaload, 1) := by decide +kernel
theorem dL_law_314 : decode cL_law 314 = .ok (.invokevirtual 32, 3) := by decide +kernel
theorem dL_law_317 : decode cL_law 317 = .ok (.aload_n 2, 1) := by decide +kernel
theorem dL_law_318 : decode cL_law 318 = .ok (.aload_n 0, 1) := by decide +kernel
theorem dL_law_319 : decode cL_law 319 = .ok (.iload_n 3, 1) := by decide +kernel
theorem dL_law_320 : decode cL_law 320 = .ok (.iconst 1, 1) := by decide +kernel
theorem dL_law_321 : decode cL_law 321 = .ok (.iadd, 1) := by decide +kernel
theorem dL_law_322 : decode cL_law 322 = .ok (.iaload, 1) := by decide +kernel
theorem dL_law_323 : decode cL_law 323 = .ok (.invokevirtual 35, 3) := by decide +kernel
theorem dL_law_326 : decode cL_law 326 = .ok (.if_icmp .eq 386, 3) := by decide +kernel
theorem dL_law_329 : decode cL_law 329 = .ok (.iconst 0, 1) := by decide +kernel
theorem dL_law_330 : decode cL_law 330 = .ok (.ireturn, 1) := by decide +kernel
theorem dL_law_331 : decode cL_law 331 = .ok (.aload_n 1, 1) := by decide +kernel
theorem dL_law_332 : decode cL_law 332 = .ok (.invokevirtual 36, 3) := by decide +kernel
theorem dL_law_335 : decode cL_law 335 = .ok (.aload_n 2, 1) := by decide +kernel
theorem dL_law_336 : decode cL_law 336 = .ok (.invokevirtual 40, 3) := by decide +kernel
theorem dL_law_339 : decode cL_law 339 = .ok (.if_icmp .eq 373, 3) := by decide +kernel
theorem dL_law_342 : decode cL_law 342 = .ok (.iconst 0, 1) := by decide +kernel
theorem dL_law_343 : decode cL_law 343 = .ok (.ireturn, 1) := by decide +kernel
theorem dL_law_344 : decode cL_law 344 = .ok (.aload_n 1, 1) := by decide +kernel
theorem dL_law_345 : decode cL_law 345 = .ok (.invokevirtual 41, 3) := by decide +kernel
theorem dL_law_348 : decode cL_law 348 = .ok (.aload_n 2, 1) := by decide +kernel
theorem dL_law_349 : decode cL_law 349 = .ok (.invokevirtual 44, 3) := by decide +kernel
theorem dL_law_352 : decode cL_law 352 = .ok (.if_icmp .eq 360, 3) := by decide +kernel
theorem dL_law_355 : decode cL_law 355 = .ok (.iconst 0, 1) := by decide +kernel
theorem dL_law_356 : decode cL_law 356 = .ok (.ireturn, 1) := by decide +kernel
theorem dL_law_357 : decode cL_law 357 = .ok (.aload_n 1, 1) := by decide +kernel
theorem dL_law_358 : decode cL_law 358 = .ok (.aload_n 0, 1) := by decide +kernel
theorem dL_law_359 : decode cL_law 359 = .ok (.iload_n 3, 1) := by decide +kernel
theorem dL_law_360 : decode cL_law 360 = .ok (.iconst 1, 1) := by decide +kernel
theorem dL_law_361 : decode cL_law 361 = .ok (.iadd, 1) := by decide +kernel
theorem dL_law_362 : decode cL_law 362 = .ok (.iaload, 1) := by decide +kernel
theorem dL_law_363 : decode cL_law 363 = .ok (.aload_n 0, 1) := by decide +kernel
theorem dL_law_364 : decode cL_law 364 = .ok (.iload_n 3, 1) := by decide +kernel
theorem dL_law_365 : decode cL_law 365 = .ok (.iconst 2, 1) := by decide +kernel
theorem dL_law_366 : decode cL_law 366 = .ok (.iadd, 1) := by decide +kernel
theorem dL_law_367 : decode cL_law 367 = .ok (.iaload, 1) := by decide +kernel
theorem dL_law_368 : decode cL_law 368 = .ok (.invokevirtual 45, 3) := by decide +kernel
theorem dL_law_371 : decode cL_law 371 = .ok (.aload_n 2, 1) := by decide +kernel
theorem dL_law_372 : decode cL_law 372 = .ok (.aload_n 0, 1) := by decide +kernel
theorem dL_law_373 : decode cL_law 373 = .ok (.iload_n 3, 1) := by decide +kernel
theorem dL_law_374 : decode cL_law 374 = .ok (.iconst 1, 1) := by decide +kernel
theorem dL_law_375 : decode cL_law 375 = .ok (.iadd, 1) := by decide +kernel
theorem dL_law_376 : decode cL_law 376 = .ok (.iaload, 1) := by decide +kernel
theorem dL_law_377 : decode cL_law 377 = .ok (.aload_n 0, 1) := by decide +kernel
theorem dL_law_378 : decode cL_law 378 = .ok (.iload_n 3, 1) := by decide +kernel
theorem dL_law_379 : decode cL_law 379 = .ok (.iconst 2, 1) := by decide +kernel
theorem dL_law_380 : decode cL_law 380 = .ok (.iadd, 1) := by decide +kernel
theorem dL_law_381 : decode cL_law 381 = .ok (.iaload, 1) := by decide +kernel
theorem dL_law_382 : decode cL_law 382 = .ok (.invokevirtual 49, 3) := by decide +kernel
theorem dL_law_385 : decode cL_law 385 = .ok (.if_icmp .eq 327, 3) := by decide +kernel
theorem dL_law_388 : decode cL_law 388 = .ok (.iconst 0, 1) := by decide +kernel
theorem dL_law_389 : decode cL_law 389 = .ok (.ireturn, 1) := by decide +kernel
theorem dL_law_390 : decode cL_law 390 = .ok (.aload_n 1, 1) := by decide +kernel
theorem dL_law_391 : decode cL_law 391 = .ok (.aload_n 0, 1) := by decide +kernel
theorem dL_law_392 : decode cL_law 392 = .ok (.iload_n 3, 1) := by decide +kernel
theorem dL_law_393 : decode cL_law 393 = .ok (.iconst 1, 1) := by decide +kernel
theorem dL_law_394 : decode cL_law 394 = .ok (.iadd, 1) := by decide +kernel
theorem dL_law_395 : decode cL_law 395 = .ok (.iaload, 1) := by decide +kernel
theorem dL_law_396 : decode cL_law 396 = .ok (.aload_n 0, 1) := by decide +kernel
theorem dL_law_397 : decode cL_law 397 = .ok (.iload_n 3, 1) := by decide +kernel
theorem dL_law_398 : decode cL_law 398 = .ok (.iconst 2, 1) := by decide +kernel
theorem dL_law_399 : decode cL_law 399 = .ok (.iadd, 1) := by decide +kernel
theorem dL_law_400 : decode cL_law 400 = .ok (.iaload, 1) := by decide +kernel
theorem dL_law_401 : decode cL_law 401 = .ok (.invokevirtual 50, 3) := by decide +kernel
theorem dL_law_404 : decode cL_law 404 = .ok (.aload_n 2, 1) := by decide +kernel
theorem dL_law_405 : decode cL_law 405 = .ok (.aload_n 0, 1) := by decide +kernel
theorem dL_law_406 : decode cL_law 406 = .ok (.iload_n 3, 1) := by decide +kernel
theorem dL_law_407 : decode cL_law 407 = .ok (.iconst 1, 1) := by decide +kernel
theorem dL_law_408 : decode cL_law 408 = .ok (.iadd, 1) := by decide +kernel
theorem dL_law_409 : decode cL_law 409 = .ok (.iaload, 1) := by decide +kernel
theorem dL_law_410 : decode cL_law 410 = .ok (.aload_n 0, 1) := by decide +kernel
theorem dL_law_411 : decode cL_law 411 = .ok (.iload_n 3, 1) := by decide +kernel
theorem dL_law_412 : decode cL_law 412 = .ok (.iconst 2, 1) := by decide +kernel
theorem dL_law_413 : decode cL_law 413 = .ok (.iadd, 1) := by decide +kernel
theorem dL_law_414 : decode cL_law 414 = .ok (.iaload, 1) := by decide +kernel
theorem dL_law_415 : decode cL_law 415 = .ok (.invokevirtual 53, 3) := by decide +kernel
theorem dL_law_418 : decode cL_law 418 = .ok (.if_icmp .eq 294, 3) := by decide +kernel
theorem dL_law_421 : decode cL_law 421 = .ok (.iconst 0, 1) := by decide +kernel
theorem dL_law_422 : decode cL_law 422 = .ok (.ireturn, 1) := by decide +kernel
theorem dL_law_423 : decode cL_law 423 = .ok (.aload_n 1, 1) := by decide +kernel
theorem dL_law_424 : decode cL_law 424 = .ok (.aload_n 0, 1) := by decide +kernel
theorem dL_law_425 : decode cL_law 425 = .ok (.iload_n 3, 1) := by decide +kernel
theorem dL_law_426 : decode cL_law 426 = .ok (.iconst 1, 1) := by decide +kernel
theorem dL_law_427 : decode cL_law 427 = .ok (.iadd, 1) := by decide +kernel
theorem dL_law_428 : decode cL_law 428 = .ok (.iaload, 1) := by decide +kernel
theorem dL_law_429 : decode cL_law 429 = .ok (.aload_n 0, 1) := by decide +kernel
theorem dL_law_430 : decode cL_law 430 = .ok (.iload_n 3, 1) := by decide +kernel
theorem dL_law_431 : decode cL_law 431 = .ok (.iconst 2, 1) := by decide +kernel
theorem dL_law_432 : decode cL_law 432 = .ok (.iadd, 1) := by decide +kernel
theorem dL_law_433 : decode cL_law 433 = .ok (.iaload, 1) := by decide +kernel
theorem dL_law_434 : decode cL_law 434 = .ok (.invokevirtual 54, 3) := by decide +kernel
theorem dL_law_437 : decode cL_law 437 = .ok (.aload_n 2, 1) := by decide +kernel
theorem dL_law_438 : decode cL_law 438 = .ok (.aload_n 0, 1) := by decide +kernel
theorem dL_law_439 : decode cL_law 439 = .ok (.iload_n 3, 1) := by decide +kernel
theorem dL_law_440 : decode cL_law 440 = .ok (.iconst 1, 1) := by decide +kernel
theorem dL_law_441 : decode cL_law 441 = .ok (.iadd, 1) := by decide +kernel
theorem dL_law_442 : decode cL_law 442 = .ok (.iaload, 1) := by decide +kernel
theorem dL_law_443 : decode cL_law 443 = .ok (.aload_n 0, 1) := by decide +kernel
theorem dL_law_444 : decode cL_law 444 = .ok (.iload_n 3, 1) := by decide +kernel
theorem dL_law_445 : decode cL_law 445 = .ok (.iconst 2, 1) := by decide +kernel
theorem dL_law_446 : decode cL_law 446 = .ok (.iadd, 1) := by decide +kernel
theorem dL_law_447 : decode cL_law 447 = .ok (.iaload, 1) := by decide +kernel
theorem dL_law_448 : decode cL_law 448 = .ok (.invokevirtual 57, 3) := by decide +kernel
theorem dL_law_451 : decode cL_law 451 = .ok (.if_icmp .eq 261, 3) := by decide +kernel
theorem dL_law_454 : decode cL_law 454 = .ok (.iconst 0, 1) := by decide +kernel
theorem dL_law_455 : decode cL_law 455 = .ok (.ireturn, 1) := by decide +kernel
theorem dL_law_456 : decode cL_law 456 = .ok (.aload_n 1, 1) := by decide +kernel
theorem dL_law_457 : decode cL_law 457 = .ok (.aload_n 0, 1) := by decide +kernel
theorem dL_law_458 : decode cL_law 458 = .ok (.iload_n 3, 1) := by decide +kernel
theorem dL_law_459 : decode cL_law 459 = .ok (.iconst 1, 1) := by decide +kernel
theorem dL_law_460 : decode cL_law 460 = .ok (.iadd, 1) := by decide +kernel
theorem dL_law_461 : decode cL_law 461 = .ok (.iaload, 1) := by decide +kernel
theorem dL_law_462 : decode cL_law 462 = .ok (.aload_n 0, 1) := by decide +kernel
theorem dL_law_463 : decode cL_law 463 = .ok (.iload_n 3, 1) := by decide +kernel
theorem dL_law_464 : decode cL_law 464 = .ok (.iconst 2, 1) := by decide +kernel
theorem dL_law_465 : decode cL_law 465 = .ok (.iadd, 1) := by decide +kernel
theorem dL_law_466 : decode cL_law 466 = .ok (.iaload, 1) := by decide +kernel
theorem dL_law_467 : decode cL_law 467 = .ok (.invokevirtual 58, 3) := by decide +kernel
theorem dL_law_470 : decode cL_law 470 = .ok (.aload_n 2, 1) := by decide +kernel
theorem dL_law_471 : decode cL_law 471 = .ok (.aload_n 0, 1) := by decide +kernel
theorem dL_law_472 : decode cL_law 472 = .ok (.iload_n 3, 1) := by decide +kernel
theorem dL_law_473 : decode cL_law 473 = .ok (.iconst 1, 1) := by decide +kernel
theorem dL_law_474 : decode cL_law 474 = .ok (.iadd, 1) := by decide +kernel
theorem dL_law_475 : decode cL_law 475 = .ok (.iaload, 1) := by decide +kernel
theorem dL_law_476 : decode cL_law 476 = .ok (.aload_n 0, 1) := by decide +kernel
theorem dL_law_477 : decode cL_law 477 = .ok (.iload_n 3, 1) := by decide +kernel
theorem dL_law_478 : decode cL_law 478 = .ok (.iconst 2, 1) := by decide +kernel
theorem dL_law_479 : decode cL_law 479 = .ok (.iadd, 1) := by decide +kernel
theorem dL_law_480 : decode cL_law 480 = .ok (.iaload, 1) := by decide +kernel
theorem dL_law_481 : decode cL_law 481 = .ok (.invokevirtual 61, 3) := by decide +kernel
theorem dL_law_484 : decode cL_law 484 = .ok (.if_icmp .eq 228, 3) := by decide +kernel
theorem dL_law_487 : decode cL_law 487 = .ok (.iconst 0, 1) := by decide +kernel
theorem dL_law_488 : decode cL_law 488 = .ok (.ireturn, 1) := by decide +kernel
theorem dL_law_489 : decode cL_law 489 = .ok (.aload_n 1, 1) := by decide +kernel
theorem dL_law_490 : decode cL_law 490 = .ok (.aload_n 0, 1) := by decide +kernel
theorem dL_law_491 : decode cL_law 491 = .ok (.iload_n 3, 1) := by decide +kernel
theorem dL_law_492 : decode cL_law 492 = .ok (.iconst 1, 1) := by decide +kernel
theorem dL_law_493 : decode cL_law 493 = .ok (.iadd, 1) := by decide +kernel
theorem dL_law_494 : decode cL_law 494 = .ok (.iaload, 1) := by decide +kernel
theorem dL_law_495 : decode cL_law 495 = .ok (.aload_n 0, 1) := by decide +kernel
theorem dL_law_496 : decode cL_law 496 = .ok (.iload_n 3, 1) := by decide +kernel
theorem dL_law_497 : decode cL_law 497 = .ok (.iconst 2, 1) := by decide +kernel
theorem dL_law_498 : decode cL_law 498 = .ok (.iadd, 1) := by decide +kernel
theorem dL_law_499 : decode cL_law 499 = .ok (.iaload, 1) := by decide +kernel
theorem dL_law_500 : decode cL_law 500 = .ok (.invokevirtual 62, 3) := by decide +kernel
theorem dL_law_503 : decode cL_law 503 = .ok (.aload_n 2, 1) := by decide +kernel
theorem dL_law_504 : decode cL_law 504 = .ok (.aload_n 0, 1) := by decide +kernel
theorem dL_law_505 : decode cL_law 505 = .ok (.iload_n 3, 1) := by decide +kernel
theorem dL_law_506 : decode cL_law 506 = .ok (.iconst 1, 1) := by decide +kernel
theorem dL_law_507 : decode cL_law 507 = .ok (.iadd, 1) := by decide +kernel
theorem dL_law_508 : decode cL_law 508 = .ok (.iaload, 1) := by decide +kernel
theorem dL_law_509 : decode cL_law 509 = .ok (.aload_n 0, 1) := by decide +kernel
theorem dL_law_510 : decode cL_law 510 = .ok (.iload_n 3, 1) := by decide +kernel
theorem dL_law_511 : decode cL_law 511 = .ok (.iconst 2, 1) := by decide +kernel
theorem dL_law_512 : decode cL_law 512 = .ok (.iadd, 1) := by decide +kernel
theorem dL_law_513 : decode cL_law 513 = .ok (.iaload, 1) := by decide +kernel
theorem dL_law_514 : decode cL_law 514 = .ok (.invokevirtual 65, 3) := by decide +kernel
theorem dL_law_517 : decode cL_law 517 = .ok (.if_icmp .eq 195, 3) := by decide +kernel
theorem dL_law_520 : decode cL_law 520 = .ok (.iconst 0, 1) := by decide +kernel
theorem dL_law_521 : decode cL_law 521 = .ok (.ireturn, 1) := by decide +kernel
theorem dL_law_522 : decode cL_law 522 = .ok (.aload_n 1, 1) := by decide +kernel
theorem dL_law_523 : decode cL_law 523 = .ok (.aload_n 0, 1) := by decide +kernel
theorem dL_law_524 : decode cL_law 524 = .ok (.iload_n 3, 1) := by decide +kernel
theorem dL_law_525 : decode cL_law 525 = .ok (.iconst 1, 1) := by decide +kernel
theorem dL_law_526 : decode cL_law 526 = .ok (.iadd, 1) := by decide +kernel
theorem dL_law_527 : decode cL_law 527 = .ok (.iaload, 1) := by decide +kernel
theorem dL_law_528 : decode cL_law 528 = .ok (.invokevirtual 66, 3) := by decide +kernel
theorem dL_law_531 : decode cL_law 531 = .ok (.aload_n 2, 1) := by decide +kernel
theorem dL_law_532 : decode cL_law 532 = .ok (.aload_n 0, 1) := by decide +kernel
theorem dL_law_533 : decode cL_law 533 = .ok (.iload_n 3, 1) := by decide +kernel
theorem dL_law_534 : decode cL_law 534 = .ok (.iconst 1, 1) := by decide +kernel
theorem dL_law_535 : decode cL_law 535 = .ok (.iadd, 1) := by decide +kernel
theorem dL_law_536 : decode cL_law 536 = .ok (.iaload, 1) := by decide +kernel
theorem dL_law_537 : decode cL_law 537 = .ok (.invokevirtual 69, 3) := by decide +kernel
theorem dL_law_540 : decode cL_law 540 = .ok (.if_icmp .eq 172, 3) := by decide +kernel
theorem dL_law_543 : decode cL_law 543 = .ok (.iconst 0, 1) := by decide +kernel
theorem dL_law_544 : decode cL_law 544 = .ok (.ireturn, 1) := by decide +kernel
theorem dL_law_545 : decode cL_law 545 = .ok (.aload_n 1, 1) := by decide +kernel
theorem dL_law_546 : decode cL_law 546 = .ok (.aload_n 0, 1) := by decide +kernel
theorem dL_law_547 : decode cL_law 547 = .ok (.iload_n 3, 1) := by decide +kernel
theorem dL_law_548 : decode cL_law 548 = .ok (.iconst 1, 1) := by decide +kernel
theorem dL_law_549 : decode cL_law 549 = .ok (.iadd, 1) := by decide +kernel
theorem dL_law_550 : decode cL_law 550 = .ok (.iaload, 1) := by decide +kernel
theorem dL_law_551 : decode cL_law 551 = .ok (.invokevirtual 70, 3) := by decide +kernel
theorem dL_law_554 : decode cL_law 554 = .ok (.aload_n 2, 1) := by decide +kernel
theorem dL_law_555 : decode cL_law 555 = .ok (.aload_n 0, 1) := by decide +kernel
theorem dL_law_556 : decode cL_law 556 = .ok (.iload_n 3, 1) := by decide +kernel
theorem dL_law_557 : decode cL_law 557 = .ok (.iconst 1, 1) := by decide +kernel
theorem dL_law_558 : decode cL_law 558 = .ok (.iadd, 1) := by decide +kernel
theorem dL_law_559 : decode cL_law 559 = .ok (.iaload, 1) := by decide +kernel
theorem dL_law_560 : decode cL_law 560 = .ok (.invokevirtual 73, 3) := by decide +kernel
theorem dL_law_563 : decode cL_law 563 = .ok (.if_icmp .eq 149, 3) := by decide +kernel
theorem dL_law_566 : decode cL_law 566 = .ok (.iconst 0, 1) := by decide +kernel
theorem dL_law_567 : decode cL_law 567 = .ok (.ireturn, 1) := by decide +kernel
theorem dL_law_568 : decode cL_law 568 = .ok (.aload_n 1, 1) := by decide +kernel
theorem dL_law_569 : decode cL_law 569 = .ok (.aload_n 0, 1) := by decide +kernel
theorem dL_law_570 : decode cL_law 570 = .ok (.iload_n 3, 1) := by decide +kernel
theorem dL_law_571 : decode cL_law 571 = .ok (.iconst 1, 1) := by decide +kernel
theorem dL_law_572 : decode cL_law 572 = .ok (.iadd, 1) := by decide +kernel
theorem dL_law_573 : decode cL_law 573 = .ok (.iaload, 1) := by decide +kernel
theorem dL_law_574 : decode cL_law 574 = .ok (.invokevirtual 74, 3) := by decide +kernel
theorem dL_law_577 : decode cL_law 577 = .ok (.aload_n 2, 1) := by decide +kernel
theorem dL_law_578 : decode cL_law 578 = .ok (.aload_n 0, 1) := by decide +kernel
theorem dL_law_579 : decode cL_law 579 = .ok (.iload_n 3, 1) := by decide +kernel
theorem dL_law_580 : decode cL_law 580 = .ok (.iconst 1, 1) := by decide +kernel
theorem dL_law_581 : decode cL_law 581 = .ok (.iadd, 1) := by decide +kernel
theorem dL_law_582 : decode cL_law 582 = .ok (.iaload, 1) := by decide +kernel
theorem dL_law_583 : decode cL_law 583 = .ok (.invokevirtual 77, 3) := by decide +kernel
theorem dL_law_586 : decode cL_law 586 = .ok (.if_icmp .eq 126, 3) := by decide +kernel
theorem dL_law_589 : decode cL_law 589 = .ok (.iconst 0, 1) := by decide +kernel
theorem dL_law_590 : decode cL_law 590 = .ok (.ireturn, 1) := by decide +kernel
theorem dL_law_591 : decode cL_law 591 = .ok (.aload_n 1, 1) := by decide +kernel
theorem dL_law_592 : decode cL_law 592 = .ok (.invokevirtual 78, 3) := by decide +kernel
theorem dL_law_595 : decode cL_law 595 = .ok (.aload_n 2, 1) := by decide +kernel
theorem dL_law_596 : decode cL_law 596 = .ok (.invokevirtual 81, 3) := by decide +kernel
theorem dL_law_599 : decode cL_law 599 = .ok (.if_icmp .eq 113, 3) := by decide +kernel
theorem dL_law_602 : decode cL_law 602 = .ok (.iconst 0, 1) := by decide +kernel
theorem dL_law_603 : decode cL_law 603 = .ok (.ireturn, 1) := by decide +kernel
theorem dL_law_604 : decode cL_law 604 = .ok (.aload_n 1, 1) := by decide +kernel
theorem dL_law_605 : decode cL_law 605 = .ok (.aload_n 0, 1) := by decide +kernel
theorem dL_law_606 : decode cL_law 606 = .ok (.iload_n 3, 1) := by decide +kernel
theorem dL_law_607 : decode cL_law 607 = .ok (.iconst 1, 1) := by decide +kernel
theorem dL_law_608 : decode cL_law 608 = .ok (.iadd, 1) := by decide +kernel
theorem dL_law_609 : decode cL_law 609 = .ok (.iaload, 1) := by decide +kernel
theorem dL_law_610 : decode cL_law 610 = .ok (.invokevirtual 82, 3) := by decide +kernel
theorem dL_law_613 : decode cL_law 613 = .ok (.aload_n 2, 1) := by decide +kernel
theorem dL_law_614 : decode cL_law 614 = .ok (.aload_n 0, 1) := by decide +kernel
theorem dL_law_615 : decode cL_law 615 = .ok (.iload_n 3, 1) := by decide +kernel
theorem dL_law_616 : decode cL_law 616 = .ok (.iconst 1, 1) := by decide +kernel
theorem dL_law_617 : decode cL_law 617 = .ok (.iadd, 1) := by decide +kernel
theorem dL_law_618 : decode cL_law 618 = .ok (.iaload, 1) := by decide +kernel
theorem dL_law_619 : decode cL_law 619 = .ok (.invokevirtual 85, 3) := by decide +kernel
theorem dL_law_622 : decode cL_law 622 = .ok (.if_icmp .eq 90, 3) := by decide +kernel
theorem dL_law_625 : decode cL_law 625 = .ok (.iconst 0, 1) := by decide +kernel
theorem dL_law_626 : decode cL_law 626 = .ok (.ireturn, 1) := by decide +kernel
theorem dL_law_627 : decode cL_law 627 = .ok (.aload_n 1, 1) := by decide +kernel
theorem dL_law_628 : decode cL_law 628 = .ok (.invokevirtual 86, 3) := by decide +kernel
theorem dL_law_631 : decode cL_law 631 = .ok (.aload_n 2, 1) := by decide +kernel
theorem dL_law_632 : decode cL_law 632 = .ok (.invokevirtual 89, 3) := by decide +kernel
theorem dL_law_635 : decode cL_law 635 = .ok (.if_icmp .eq 77, 3) := by decide +kernel
theorem dL_law_638 : decode cL_law 638 = .ok (.iconst 0, 1) := by decide +kernel
theorem dL_law_639 : decode cL_law 639 = .ok (.ireturn, 1) := by decide +kernel
theorem dL_law_640 : decode cL_law 640 = .ok (.aload_n 1, 1) := by decide +kernel
theorem dL_law_641 : decode cL_law 641 = .ok (.aload_n 0, 1) := by decide +kernel
theorem dL_law_642 : decode cL_law 642 = .ok (.iload_n 3, 1) := by decide +kernel
theorem dL_law_643 : decode cL_law 643 = .ok (.iconst 1, 1) := by decide +kernel
theorem dL_law_644 : decode cL_law 644 = .ok (.iadd, 1) := by decide +kernel
theorem dL_law_645 : decode cL_law 645 = .ok (.iaload, 1) := by decide +kernel
theorem dL_law_646 : decode cL_law 646 = .ok (.invokevirtual 90, 3) := by decide +kernel
theorem dL_law_649 : decode cL_law 649 = .ok (.aload_n 2, 1) := by decide +kernel
theorem dL_law_650 : decode cL_law 650 = .ok (.aload_n 0, 1) := by decide +kernel
theorem dL_law_651 : decode cL_law 651 = .ok (.iload_n 3, 1) := by decide +kernel
theorem dL_law_652 : decode cL_law 652 = .ok (.iconst 1, 1) := by decide +kernel
theorem dL_law_653 : decode cL_law 653 = .ok (.iadd, 1) := by decide +kernel
theorem dL_law_654 : decode cL_law 654 = .ok (.iaload, 1) := by decide +kernel
theorem dL_law_655 : decode cL_law 655 = .ok (.invokevirtual 93, 3) := by decide +kernel
theorem dL_law_658 : decode cL_law 658 = .ok (.if_icmp .eq 54, 3) := by decide +kernel
theorem dL_law_661 : decode cL_law 661 = .ok (.iconst 0, 1) := by decide +kernel
theorem dL_law_662 : decode cL_law 662 = .ok (.ireturn, 1) := by decide +kernel
theorem dL_law_663 : decode cL_law 663 = .ok (.aload_n 1, 1) := by decide +kernel
theorem dL_law_664 : decode cL_law 664 = .ok (.invokevirtual 94, 3) := by decide +kernel
theorem dL_law_667 : decode cL_law 667 = .ok (.aload_n 2, 1) := by decide +kernel
theorem dL_law_668 : decode cL_law 668 = .ok (.invokevirtual 97, 3) := by decide +kernel
theorem dL_law_671 : decode cL_law 671 = .ok (.if_icmp .eq 41, 3) := by decide +kernel
theorem dL_law_674 : decode cL_law 674 = .ok (.iconst 0, 1) := by decide +kernel
theorem dL_law_675 : decode cL_law 675 = .ok (.ireturn, 1) := by decide +kernel
theorem dL_law_676 : decode cL_law 676 = .ok (.aload_n 1, 1) := by decide +kernel
theorem dL_law_677 : decode cL_law 677 = .ok (.aload_n 0, 1) := by decide +kernel
theorem dL_law_678 : decode cL_law 678 = .ok (.iload_n 3, 1) := by decide +kernel
theorem dL_law_679 : decode cL_law 679 = .ok (.iconst 1, 1) := by decide +kernel
theorem dL_law_680 : decode cL_law 680 = .ok (.iadd, 1) := by decide +kernel
theorem dL_law_681 : decode cL_law 681 = .ok (.iaload, 1) := by decide +kernel
theorem dL_law_682 : decode cL_law 682 = .ok (.invokevirtual 98, 3) := by decide +kernel
theorem dL_law_685 : decode cL_law 685 = .ok (.aload_n 2, 1) := by decide +kernel
theorem dL_law_686 : decode cL_law 686 = .ok (.aload_n 0, 1) := by decide +kernel
theorem dL_law_687 : decode cL_law 687 = .ok (.iload_n 3, 1) := by decide +kernel
theorem dL_law_688 : decode cL_law 688 = .ok (.iconst 1, 1) := by decide +kernel
theorem dL_law_689 : decode cL_law 689 = .ok (.iadd, 1) := by decide +kernel
theorem dL_law_690 : decode cL_law 690 = .ok (.iaload, 1) := by decide +kernel
theorem dL_law_691 : decode cL_law 691 = .ok (.invokevirtual 101, 3) := by decide +kernel
theorem dL_law_694 : decode cL_law 694 = .ok (.if_icmp .eq 18, 3) := by decide +kernel
theorem dL_law_697 : decode cL_law 697 = .ok (.iconst 0, 1) := by decide +kernel
theorem dL_law_698 : decode cL_law 698 = .ok (.ireturn, 1) := by decide +kernel
theorem dL_law_699 : decode cL_law 699 = .ok (.aload_n 1, 1) := by decide +kernel
theorem dL_law_700 : decode cL_law 700 = .ok (.invokevirtual 102, 3) := by decide +kernel
theorem dL_law_703 : decode cL_law 703 = .ok (.aload_n 2, 1) := by decide +kernel
theorem dL_law_704 : decode cL_law 704 = .ok (.invokevirtual 105, 3) := by decide +kernel
theorem dL_law_707 : decode cL_law 707 = .ok (.if_icmp .eq 5, 3) := by decide +kernel
theorem dL_law_710 : decode cL_law 710 = .ok (.iconst 0, 1) := by decide +kernel
theorem dL_law_711 : decode cL_law 711 = .ok (.ireturn, 1) := by decide +kernel
theorem dL_law_712 : decode cL_law 712 = .ok (.iinc 3 5, 3) := by decide +kernel
theorem dL_law_715 : decode cL_law 715 = .ok (.goto (-697), 3) := by decide +kernel
theorem dL_law_718 : decode cL_law 718 = .ok (.iconst 1, 1) := by decide +kernel
theorem dL_law_719 : decode cL_law 719 = .ok (.ireturn, 1) := by decide +kernel
end
section
/-! words and links -/
abbrev q_MI : Type := MethodName × ByteArray × Nat × Option FieldType × Nat × Nat
def q_nf (c : Nat) : Nat := if c = 0 then 13 else if c = 1 then 3 else if c = 2 then 8 else if c = 3 then 14 else if c = 4 then 7 else if c = 5 then 4 else 13
def q_C (c : Nat) : String := match c with
  | 0 => RX0
  | 1 => RX1
  | 2 => RX2
  | 3 => RX3
  | 4 => RX4
  | 5 => RX6
  | _ => RX7
def q_T (c : Nat) : u_T := match c with
  | 0 => TX0
  | 1 => TX1
  | 2 => TX2
  | 3 => TX3
  | 4 => TX4
  | 5 => TX6
  | _ => TX7
abbrev q_wd (w : Cond) : Prop := w ∈ lw_tbl ∧ goodWord w = true
abbrev q_lkB (own : String) (idx : Nat) (kc : q_MI) (n : Nat) : Prop := q_wd (.methodLink own idx kc.1) ∧ q_wd (.initialized kc.1.cls) ∧ q_wd (.code kc.1 kc.2.1 kc.2.2.1 kc.2.2.2.1) ∧ (kc.1.cls ≠ "java/lang/invoke/MethodHandle" ∧ kc.1.cls ≠ "java/lang/invoke/VarHandle") ∧ (parseMethodDescriptor kc.1.desc).map (fun d => d.parameters.length) = some n
abbrev q_lkV (own : String) (idx : Nat) (kc : q_MI) (n : Nat) : Prop := q_lkB own idx kc n ∧ q_wd (.instanceMethod kc.1) ∧ q_wd (.selects kc.1.cls kc.1 kc.1)
abbrev q_lkS (own : String) (idx : Nat) (kc : q_MI) (n : Nat) : Prop := q_lkB own idx kc n ∧ q_wd (.static kc.1)
abbrev q_lkN (kc : q_MI) (n : Nat) : Prop := q_wd (.initialized kc.1.cls) ∧ q_wd (.code kc.1 kc.2.1 kc.2.2.1 kc.2.2.2.1) ∧ (kc.1.cls ≠ "java/lang/invoke/MethodHandle" ∧ kc.1.cls ≠ "java/lang/invoke/VarHandle") ∧ (parseMethodDescriptor kc.1.desc).map (fun d => d.parameters.length) = some n ∧ q_wd (.static kc.1)
abbrev q_lkM (own : String) (idx : Nat) (y : MethodName) (b : ByteArray) : Prop := q_wd (.methodLink own idx y) ∧ q_wd (.static y) ∧ q_wd (.initialized "java/lang/Math") ∧ q_wd (.code y b 2 (some .int))
end
section
/-! method infos: name, code, locals, what is returned, frames and words below it -/
def kX0_init : q_MI := (yX0_init, cX0_init, 2, none, 1, 20)
theorem pnX0_init : plainName kX0_init.1.cls = true := by decide
def kX0_copyFrom : q_MI := (yX0_copyFrom, cX0_copyFrom, 2, none, 1, 21)
theorem pnX0_copyFrom : plainName kX0_copyFrom.1.cls = true := by decide
def kX0_begin : q_MI := (yX0_begin, cX0_begin, 5, none, 1, 20)
theorem pnX0_begin : plainName kX0_begin.1.cls = true := by decide
def kX0_reopen : q_MI := (yX0_reopen, cX0_reopen, 1, none, 0, 0)
theorem pnX0_reopen : plainName kX0_reopen.1.cls = true := by decide
def kX0_hasFreePlace : q_MI := (yX0_hasFreePlace, cX0_hasFreePlace, 1, (some .boolean), 0, 0)
theorem pnX0_hasFreePlace : plainName kX0_hasFreePlace.1.cls = true := by decide
def kX0_isTooSmall : q_MI := (yX0_isTooSmall, cX0_isTooSmall, 1, (some .boolean), 0, 0)
theorem pnX0_isTooSmall : plainName kX0_isTooSmall.1.cls = true := by decide
def kX0_canTake : q_MI := (yX0_canTake, cX0_canTake, 2, (some .boolean), 1, 21)
theorem pnX0_canTake : plainName kX0_canTake.1.cls = true := by decide
def kX0_levelsFrom : q_MI := (yX0_levelsFrom, cX0_levelsFrom, 2, (some .int), 0, 0)
theorem pnX0_levelsFrom : plainName kX0_levelsFrom.1.cls = true := by decide
def kX0_memberAt : q_MI := (yX0_memberAt, cX0_memberAt, 2, (some .int), 0, 0)
theorem pnX0_memberAt : plainName kX0_memberAt.1.cls = true := by decide
def kX0_add : q_MI := (yX0_add, cX0_add, 2, none, 0, 0)
theorem pnX0_add : plainName kX0_add.1.cls = true := by decide
def kX0_remove : q_MI := (yX0_remove, cX0_remove, 4, none, 0, 0)
theorem pnX0_remove : plainName kX0_remove.1.cls = true := by decide
def kX1_init : q_MI := (yX1_init, cX1_init, 2, none, 3, 62)
theorem pnX1_init : plainName kX1_init.1.cls = true := by decide
def kX1_note : q_MI := (yX1_note, cX1_note, 2, none, 3, 64)
theorem pnX1_note : plainName kX1_note.1.cls = true := by decide
def kX1_keep : q_MI := (yX1_keep, cX1_keep, 2, (some .int), 1, 21)
theorem pnX1_keep : plainName kX1_keep.1.cls = true := by decide
def kX1_restoreInto : q_MI := (yX1_restoreInto, cX1_restoreInto, 2, (some .int), 3, 64)
theorem pnX1_restoreInto : plainName kX1_restoreInto.1.cls = true := by decide
def kX2_init : q_MI := (yX2_init, cX2_init, 2, none, 1, 20)
theorem pnX2_init : plainName kX2_init.1.cls = true := by decide
def kX2_copyFrom : q_MI := (yX2_copyFrom, cX2_copyFrom, 2, none, 0, 0)
theorem pnX2_copyFrom : plainName kX2_copyFrom.1.cls = true := by decide
def kX2_forget : q_MI := (yX2_forget, cX2_forget, 1, none, 1, 23)
theorem pnX2_forget : plainName kX2_forget.1.cls = true := by decide
def kX2_setWishes : q_MI := (yX2_setWishes, cX2_setWishes, 4, none, 0, 0)
theorem pnX2_setWishes : plainName kX2_setWishes.1.cls = true := by decide
def kX2_wishAt : q_MI := (yX2_wishAt, cX2_wishAt, 2, (some .int), 0, 0)
theorem pnX2_wishAt : plainName kX2_wishAt.1.cls = true := by decide
def kX2_rankOf : q_MI := (yX2_rankOf, cX2_rankOf, 2, (some .int), 0, 0)
theorem pnX2_rankOf : plainName kX2_rankOf.1.cls = true := by decide
def kX2_rankHeld : q_MI := (yX2_rankHeld, cX2_rankHeld, 1, (some .int), 1, 21)
theorem pnX2_rankHeld : plainName kX2_rankHeld.1.cls = true := by decide
def kX2_waitsFor : q_MI := (yX2_waitsFor, cX2_waitsFor, 3, (some .boolean), 2, 41)
theorem pnX2_waitsFor : plainName kX2_waitsFor.1.cls = true := by decide
def kX3_init : q_MI := (yX3_init, cX3_init, 2, none, 2, 41)
theorem pnX3_init : plainName kX3_init.1.cls = true := by decide
def kX3_copyFrom : q_MI := (yX3_copyFrom, cX3_copyFrom, 3, none, 2, 42)
theorem pnX3_copyFrom : plainName kX3_copyFrom.1.cls = true := by decide
def kX3_courseAt : q_MI := (yX3_courseAt, cX3_courseAt, 2, (some (.object "EveningClasses$Course")), 0, 0)
theorem pnX3_courseAt : plainName kX3_courseAt.1.cls = true := by decide
def kX3_personAt : q_MI := (yX3_personAt, cX3_personAt, 2, (some (.object "EveningClasses$Person")), 0, 0)
theorem pnX3_personAt : plainName kX3_personAt.1.cls = true := by decide
def kX3_isRoom : q_MI := (yX3_isRoom, cX3_isRoom, 2, (some .boolean), 0, 0)
theorem pnX3_isRoom : plainName kX3_isRoom.1.cls = true := by decide
def kX3_chairsOf : q_MI := (yX3_chairsOf, cX3_chairsOf, 2, (some .int), 0, 0)
theorem pnX3_chairsOf : plainName kX3_chairsOf.1.cls = true := by decide
def kX3_addCourse : q_MI := (yX3_addCourse, cX3_addCourse, 6, (some .int), 2, 44)
theorem pnX3_addCourse : plainName kX3_addCourse.1.cls = true := by decide
def kX3_addRoom : q_MI := (yX3_addRoom, cX3_addRoom, 2, (some .int), 1, 22)
theorem pnX3_addRoom : plainName kX3_addRoom.1.cls = true := by decide
def kX3_addPerson : q_MI := (yX3_addPerson, cX3_addPerson, 5, (some .int), 3, 69)
theorem pnX3_addPerson : plainName kX3_addPerson.1.cls = true := by decide
def kX3_changeWishes : q_MI := (yX3_changeWishes, cX3_changeWishes, 6, (some .int), 3, 69)
theorem pnX3_changeWishes : plainName kX3_changeWishes.1.cls = true := by decide
def kX3_sendAway : q_MI := (yX3_sendAway, cX3_sendAway, 4, (some .int), 3, 69)
theorem pnX3_sendAway : plainName kX3_sendAway.1.cls = true := by decide
def kX3_areWishes : q_MI := (yX3_areWishes, cX3_areWishes, 4, (some .boolean), 1, 21)
theorem pnX3_areWishes : plainName kX3_areWishes.1.cls = true := by decide
def kX3_closeTerm : q_MI := (yX3_closeTerm, cX3_closeTerm, 4, (some .int), 3, 72)
theorem pnX3_closeTerm : plainName kX3_closeTerm.1.cls = true := by decide
def kX3_beginNextTerm : q_MI := (yX3_beginNextTerm, cX3_beginNextTerm, 5, (some .int), 2, 43)
theorem pnX3_beginNextTerm : plainName kX3_beginNextTerm.1.cls = true := by decide
def kX3_settle : q_MI := (yX3_settle, cX3_settle, 5, none, 2, 45)
theorem pnX3_settle : plainName kX3_settle.1.cls = true := by decide
def kX3_betterFor : q_MI := (yX3_betterFor, cX3_betterFor, 5, (some (.object "EveningClasses$Course")), 1, 21)
theorem pnX3_betterFor : plainName kX3_betterFor.1.cls = true := by decide
def kX3_comeInto : q_MI := (yX3_comeInto, cX3_comeInto, 3, none, 1, 21)
theorem pnX3_comeInto : plainName kX3_comeInto.1.cls = true := by decide
def kX3_goOut : q_MI := (yX3_goOut, cX3_goOut, 3, none, 1, 23)
theorem pnX3_goOut : plainName kX3_goOut.1.cls = true := by decide
def kX3_smallestTooSmall : q_MI := (yX3_smallestTooSmall, cX3_smallestTooSmall, 6, (some (.object "EveningClasses$Course")), 1, 20)
theorem pnX3_smallestTooSmall : plainName kX3_smallestTooSmall.1.cls = true := by decide
def kX3_mergingOf : q_MI := (yX3_mergingOf, cX3_mergingOf, 7, (some (.object "EveningClasses$Course")), 2, 44)
theorem pnX3_mergingOf : plainName kX3_mergingOf.1.cls = true := by decide
def kX3_isBetterMerging : q_MI := (yX3_isBetterMerging, cX3_isBetterMerging, 4, (some .boolean), 1, 21)
theorem pnX3_isBetterMerging : plainName kX3_isBetterMerging.1.cls = true := by decide
def kX3_merge : q_MI := (yX3_merge, cX3_merge, 6, none, 1, 21)
theorem pnX3_merge : plainName kX3_merge.1.cls = true := by decide
def kX3_cancel : q_MI := (yX3_cancel, cX3_cancel, 7, none, 2, 45)
theorem pnX3_cancel : plainName kX3_cancel.1.cls = true := by decide
def kX3_findsRoom : q_MI := (yX3_findsRoom, cX3_findsRoom, 3, (some .boolean), 2, 50)
theorem pnX3_findsRoom : plainName kX3_findsRoom.1.cls = true := by decide
def kX3_greatestOpen : q_MI := (yX3_greatestOpen, cX3_greatestOpen, 6, (some (.object "EveningClasses$Course")), 0, 0)
theorem pnX3_greatestOpen : plainName kX3_greatestOpen.1.cls = true := by decide
def kX3_roomFor : q_MI := (yX3_roomFor, cX3_roomFor, 5, (some .int), 1, 26)
theorem pnX3_roomFor : plainName kX3_roomFor.1.cls = true := by decide
def kX3_isGiven : q_MI := (yX3_isGiven, cX3_isGiven, 7, (some .boolean), 0, 0)
theorem pnX3_isGiven : plainName kX3_isGiven.1.cls = true := by decide
def kX3_coursesIn : q_MI := (yX3_coursesIn, cX3_coursesIn, 7, (some .int), 0, 0)
theorem pnX3_coursesIn : plainName kX3_coursesIn.1.cls = true := by decide
def kX3_chairsLeft : q_MI := (yX3_chairsLeft, cX3_chairsLeft, 8, (some .int), 1, 21)
theorem pnX3_chairsLeft : plainName kX3_chairsLeft.1.cls = true := by decide
def kX3_coursesThatAre : q_MI := (yX3_coursesThatAre, cX3_coursesThatAre, 7, (some .int), 0, 0)
theorem pnX3_coursesThatAre : plainName kX3_coursesThatAre.1.cls = true := by decide
def kX3_coursesWithPlace : q_MI := (yX3_coursesWithPlace, cX3_coursesWithPlace, 6, (some .int), 1, 20)
theorem pnX3_coursesWithPlace : plainName kX3_coursesWithPlace.1.cls = true := by decide
def kX3_howManyWait : q_MI := (yX3_howManyWait, cX3_howManyWait, 7, (some .int), 3, 63)
theorem pnX3_howManyWait : plainName kX3_howManyWait.1.cls = true := by decide
def kX3_waiterAt : q_MI := (yX3_waiterAt, cX3_waiterAt, 8, (some .int), 3, 63)
theorem pnX3_waiterAt : plainName kX3_waiterAt.1.cls = true := by decide
def kX3_peopleHere : q_MI := (yX3_peopleHere, cX3_peopleHere, 6, (some .int), 0, 0)
theorem pnX3_peopleHere : plainName kX3_peopleHere.1.cls = true := by decide
def kX3_peopleInClasses : q_MI := (yX3_peopleInClasses, cX3_peopleInClasses, 6, (some .int), 0, 0)
theorem pnX3_peopleInClasses : plainName kX3_peopleInClasses.1.cls = true := by decide
def kX3_ranksTogether : q_MI := (yX3_ranksTogether, cX3_ranksTogether, 6, (some .int), 2, 41)
theorem pnX3_ranksTogether : plainName kX3_ranksTogether.1.cls = true := by decide
def kX3_paidForClasses : q_MI := (yX3_paidForClasses, cX3_paidForClasses, 6, (some .int), 0, 0)
theorem pnX3_paidForClasses : plainName kX3_paidForClasses.1.cls = true := by decide
def kX4_init : q_MI := (yX4_init, cX4_init, 1, none, 1, 20)
theorem pnX4_init : plainName kX4_init.1.cls = true := by decide
def kX4_append : q_MI := (yX4_append, cX4_append, 2, (some .int), 1, 22)
theorem pnX4_append : plainName kX4_append.1.cls = true := by decide
def kX4_playOn : q_MI := (yX4_playOn, cX4_playOn, 7, none, 7, 156)
theorem pnX4_playOn : plainName kX4_playOn.1.cls = true := by decide
def kX4_answerTo : q_MI := (yX4_answerTo, cX4_answerTo, 3, (some .int), 4, 95)
theorem pnX4_answerTo : plainName kX4_answerTo.1.cls = true := by decide
def kX4_wordAt : q_MI := (yX4_wordAt, cX4_wordAt, 7, (some (.object "EveningClasses$Word")), 6, 130)
theorem pnX4_wordAt : plainName kX4_wordAt.1.cls = true := by decide
def kX4_isBetween : q_MI := (yX4_isBetween, cX4_isBetween, 5, (some .boolean), 5, 106)
theorem pnX4_isBetween : plainName kX4_isBetween.1.cls = true := by decide
def kX4_readOrder : q_MI := (yX4_readOrder, cX4_readOrder, 5, (some .int), 3, 68)
theorem pnX4_readOrder : plainName kX4_readOrder.1.cls = true := by decide
def kX4_readNumbers : q_MI := (yX4_readNumbers, cX4_readNumbers, 7, (some .int), 2, 42)
theorem pnX4_readNumbers : plainName kX4_readNumbers.1.cls = true := by decide
def kX4_notFitting : q_MI := (yX4_notFitting, cX4_notFitting, 3, (some .int), 0, 0)
theorem pnX4_notFitting : plainName kX4_notFitting.1.cls = true := by decide
def kX4_characterAt : q_MI := (yX4_characterAt, cX4_characterAt, 2, (some .char), 0, 0)
theorem pnX4_characterAt : plainName kX4_characterAt.1.cls = true := by decide
def kX4_isLetter : q_MI := (yX4_isLetter, cX4_isLetter, 2, (some .boolean), 1, 21)
theorem pnX4_isLetter : plainName kX4_isLetter.1.cls = true := by decide
def kX4_isDigit : q_MI := (yX4_isDigit, cX4_isDigit, 2, (some .boolean), 1, 21)
theorem pnX4_isDigit : plainName kX4_isDigit.1.cls = true := by decide
def kX4_numberAt : q_MI := (yX4_numberAt, cX4_numberAt, 2, (some .int), 0, 0)
theorem pnX4_numberAt : plainName kX4_numberAt.1.cls = true := by decide
def kX6_init : q_MI := (yX6_init, cX6_init, 1, none, 4, 83)
theorem pnX6_init : plainName kX6_init.1.cls = true := by decide
def kX6_course : q_MI := (yX6_course, cX6_course, 5, (some .int), 4, 85)
theorem pnX6_course : plainName kX6_course.1.cls = true := by decide
def kX6_room : q_MI := (yX6_room, cX6_room, 2, (some .int), 4, 85)
theorem pnX6_room : plainName kX6_room.1.cls = true := by decide
def kX6_join : q_MI := (yX6_join, cX6_join, 4, (some .int), 4, 93)
theorem pnX6_join : plainName kX6_join.1.cls = true := by decide
def kX6_wish : q_MI := (yX6_wish, cX6_wish, 5, (some .int), 4, 94)
theorem pnX6_wish : plainName kX6_wish.1.cls = true := by decide
def kX6_leave : q_MI := (yX6_leave, cX6_leave, 2, (some .int), 4, 92)
theorem pnX6_leave : plainName kX6_leave.1.cls = true := by decide
def kX6_close : q_MI := (yX6_close, cX6_close, 1, (some .int), 4, 95)
theorem pnX6_close : plainName kX6_close.1.cls = true := by decide
def kX6_term : q_MI := (yX6_term, cX6_term, 1, (some .int), 4, 85)
theorem pnX6_term : plainName kX6_term.1.cls = true := by decide
def kX6_courseOf : q_MI := (yX6_courseOf, cX6_courseOf, 4, (some .int), 4, 89)
theorem pnX6_courseOf : plainName kX6_courseOf.1.cls = true := by decide
def kX6_member : q_MI := (yX6_member, cX6_member, 4, (some .int), 1, 21)
theorem pnX6_member : plainName kX6_member.1.cls = true := by decide
def kX6_waits : q_MI := (yX6_waits, cX6_waits, 3, (some .int), 4, 90)
theorem pnX6_waits : plainName kX6_waits.1.cls = true := by decide
def kX6_personOf : q_MI := (yX6_personOf, cX6_personOf, 4, (some .int), 2, 41)
theorem pnX6_personOf : plainName kX6_personOf.1.cls = true := by decide
def kX6_roomOf : q_MI := (yX6_roomOf, cX6_roomOf, 3, (some .int), 2, 48)
theorem pnX6_roomOf : plainName kX6_roomOf.1.cls = true := by decide
def kX6_ifClose : q_MI := (yX6_ifClose, cX6_ifClose, 2, (some .int), 4, 95)
theorem pnX6_ifClose : plainName kX6_ifClose.1.cls = true := by decide
def kX6_beside : q_MI := (yX6_beside, cX6_beside, 4, (some .int), 3, 70)
theorem pnX6_beside : plainName kX6_beside.1.cls = true := by decide
def kX6_ifJoin : q_MI := (yX6_ifJoin, cX6_ifJoin, 3, (some .int), 1, 21)
theorem pnX6_ifJoin : plainName kX6_ifJoin.1.cls = true := by decide
def kX6_mean : q_MI := (yX6_mean, cX6_mean, 2, (some .int), 3, 66)
theorem pnX6_mean : plainName kX6_mean.1.cls = true := by decide
def kX6_count : q_MI := (yX6_count, cX6_count, 2, (some .int), 2, 45)
theorem pnX6_count : plainName kX6_count.1.cls = true := by decide
def kX6_undo : q_MI := (yX6_undo, cX6_undo, 1, (some .int), 4, 85)
theorem pnX6_undo : plainName kX6_undo.1.cls = true := by decide
def kX6_type : q_MI := (yX6_type, cX6_type, 2, (some .int), 2, 43)
theorem pnX6_type : plainName kX6_type.1.cls = true := by decide
def kX6_clearText : q_MI := (yX6_clearText, cX6_clearText, 2, (some .int), 0, 0)
theorem pnX6_clearText : plainName kX6_clearText.1.cls = true := by decide
def kX6_fault : q_MI := (yX6_fault, cX6_fault, 2, (some .int), 8, 182)
theorem pnX6_fault : plainName kX6_fault.1.cls = true := by decide
def kX6_play : q_MI := (yX6_play, cX6_play, 1, (some .int), 8, 182)
theorem pnX6_play : plainName kX6_play.1.cls = true := by decide
def kX6_isOutside : q_MI := (yX6_isOutside, cX6_isOutside, 3, (some .boolean), 0, 0)
theorem pnX6_isOutside : plainName kX6_isOutside.1.cls = true := by decide
def kX6_foundOrNot : q_MI := (yX6_foundOrNot, cX6_foundOrNot, 1, (some .int), 0, 0)
theorem pnX6_foundOrNot : plainName kX6_foundOrNot.1.cls = true := by decide
def kX6_bitsOf : q_MI := (yX6_bitsOf, cX6_bitsOf, 4, (some .int), 0, 0)
theorem pnX6_bitsOf : plainName kX6_bitsOf.1.cls = true := by decide
def kX7_init : q_MI := (yX7_init, cX7_init, 1, none, 1, 20)
theorem pnX7_init : plainName kX7_init.1.cls = true := by decide
def kX7_in : q_MI := (yX7_in, cX7_in, 3, (some .boolean), 0, 0)
theorem pnX7_in : plainName kX7_in.1.cls = true := by decide
def kX7_putAside : q_MI := (yX7_putAside, cX7_putAside, 2, none, 0, 0)
theorem pnX7_putAside : plainName kX7_putAside.1.cls = true := by decide
def kX7_putBack : q_MI := (yX7_putBack, cX7_putBack, 2, none, 0, 0)
theorem pnX7_putBack : plainName kX7_putBack.1.cls = true := by decide
def kX7_change : q_MI := (yX7_change, cX7_change, 3, (some .int), 1, 21)
theorem pnX7_change : plainName kX7_change.1.cls = true := by decide
def kX7_at : q_MI := (yX7_at, cX7_at, 2, (some .int), 0, 0)
theorem pnX7_at : plainName kX7_at.1.cls = true := by decide
def kX7_of : q_MI := (yX7_of, cX7_of, 2, (some .int), 0, 0)
theorem pnX7_of : plainName kX7_of.1.cls = true := by decide
def kX7_isCourse : q_MI := (yX7_isCourse, cX7_isCourse, 2, (some .boolean), 1, 22)
theorem pnX7_isCourse : plainName kX7_isCourse.1.cls = true := by decide
def kX7_isPerson : q_MI := (yX7_isPerson, cX7_isPerson, 2, (some .boolean), 1, 22)
theorem pnX7_isPerson : plainName kX7_isPerson.1.cls = true := by decide
def kX7_isRoom : q_MI := (yX7_isRoom, cX7_isRoom, 2, (some .boolean), 1, 22)
theorem pnX7_isRoom : plainName kX7_isRoom.1.cls = true := by decide
def kX7_isHere : q_MI := (yX7_isHere, cX7_isHere, 2, (some .boolean), 1, 21)
theorem pnX7_isHere : plainName kX7_isHere.1.cls = true := by decide
def kX7_isOpen : q_MI := (yX7_isOpen, cX7_isOpen, 2, (some .boolean), 1, 21)
theorem pnX7_isOpen : plainName kX7_isOpen.1.cls = true := by decide
def kX7_people : q_MI := (yX7_people, cX7_people, 2, (some .int), 1, 21)
theorem pnX7_people : plainName kX7_people.1.cls = true := by decide
def kX7_hasFree : q_MI := (yX7_hasFree, cX7_hasFree, 2, (some .boolean), 2, 42)
theorem pnX7_hasFree : plainName kX7_hasFree.1.cls = true := by decide
def kX7_rankOf : q_MI := (yX7_rankOf, cX7_rankOf, 4, (some .int), 1, 21)
theorem pnX7_rankOf : plainName kX7_rankOf.1.cls = true := by decide
def kX7_rank : q_MI := (yX7_rank, cX7_rank, 3, (some .int), 2, 44)
theorem pnX7_rank : plainName kX7_rank.1.cls = true := by decide
def kX7_goesOut : q_MI := (yX7_goesOut, cX7_goesOut, 6, none, 2, 42)
theorem pnX7_goesOut : plainName kX7_goesOut.1.cls = true := by decide
def kX7_joins : q_MI := (yX7_joins, cX7_joins, 3, none, 2, 42)
theorem pnX7_joins : plainName kX7_joins.1.cls = true := by decide
def kX7_better : q_MI := (yX7_better, cX7_better, 5, (some .int), 3, 66)
theorem pnX7_better : plainName kX7_better.1.cls = true := by decide
def kX7_settle : q_MI := (yX7_settle, cX7_settle, 3, none, 4, 90)
theorem pnX7_settle : plainName kX7_settle.1.cls = true := by decide
def kX7_cancels : q_MI := (yX7_cancels, cX7_cancels, 3, none, 3, 67)
theorem pnX7_cancels : plainName kX7_cancels.1.cls = true := by decide
def kX7_levelsApart : q_MI := (yX7_levelsApart, cX7_levelsApart, 4, (some .int), 1, 21)
theorem pnX7_levelsApart : plainName kX7_levelsApart.1.cls = true := by decide
def kX7_fitting : q_MI := (yX7_fitting, cX7_fitting, 7, (some .int), 2, 44)
theorem pnX7_fitting : plainName kX7_fitting.1.cls = true := by decide
def kX7_merges : q_MI := (yX7_merges, cX7_merges, 7, none, 3, 64)
theorem pnX7_merges : plainName kX7_merges.1.cls = true := by decide
def kX7_smallest : q_MI := (yX7_smallest, cX7_smallest, 4, (some .int), 2, 42)
theorem pnX7_smallest : plainName kX7_smallest.1.cls = true := by decide
def kX7_greatest : q_MI := (yX7_greatest, cX7_greatest, 3, (some .int), 2, 42)
theorem pnX7_greatest : plainName kX7_greatest.1.cls = true := by decide
def kX7_isTaken : q_MI := (yX7_isTaken, cX7_isTaken, 5, (some .boolean), 1, 21)
theorem pnX7_isTaken : plainName kX7_isTaken.1.cls = true := by decide
def kX7_roomFor : q_MI := (yX7_roomFor, cX7_roomFor, 5, (some .int), 2, 45)
theorem pnX7_roomFor : plainName kX7_roomFor.1.cls = true := by decide
def kX7_closes : q_MI := (yX7_closes, cX7_closes, 3, none, 5, 112)
theorem pnX7_closes : plainName kX7_closes.1.cls = true := by decide
def kX7_inState : q_MI := (yX7_inState, cX7_inState, 4, (some .int), 1, 21)
theorem pnX7_inState : plainName kX7_inState.1.cls = true := by decide
def kX7_size : q_MI := (yX7_size, cX7_size, 3, (some .int), 0, 0)
theorem pnX7_size : plainName kX7_size.1.cls = true := by decide
def kX7_areWishes : q_MI := (yX7_areWishes, cX7_areWishes, 5, (some .boolean), 2, 43)
theorem pnX7_areWishes : plainName kX7_areWishes.1.cls = true := by decide
def kX7_wishes : q_MI := (yX7_wishes, cX7_wishes, 5, none, 1, 21)
theorem pnX7_wishes : plainName kX7_wishes.1.cls = true := by decide
def kX7_comes : q_MI := (yX7_comes, cX7_comes, 5, (some .int), 5, 112)
theorem pnX7_comes : plainName kX7_comes.1.cls = true := by decide
def kX7_changesWishes : q_MI := (yX7_changesWishes, cX7_changesWishes, 5, (some .int), 5, 112)
theorem pnX7_changesWishes : plainName kX7_changesWishes.1.cls = true := by decide
def kX7_leaves : q_MI := (yX7_leaves, cX7_leaves, 3, (some .int), 5, 112)
theorem pnX7_leaves : plainName kX7_leaves.1.cls = true := by decide
def kX7_closesTerm : q_MI := (yX7_closesTerm, cX7_closesTerm, 1, (some .int), 6, 134)
theorem pnX7_closesTerm : plainName kX7_closesTerm.1.cls = true := by decide
def kX7_paidNow : q_MI := (yX7_paidNow, cX7_paidNow, 3, (some .int), 1, 21)
theorem pnX7_paidNow : plainName kX7_paidNow.1.cls = true := by decide
def kX7_beginsTerm : q_MI := (yX7_beginsTerm, cX7_beginsTerm, 2, (some .int), 2, 43)
theorem pnX7_beginsTerm : plainName kX7_beginsTerm.1.cls = true := by decide
def kX7_course : q_MI := (yX7_course, cX7_course, 6, (some .int), 2, 43)
theorem pnX7_course : plainName kX7_course.1.cls = true := by decide
def kX7_room : q_MI := (yX7_room, cX7_room, 2, (some .int), 2, 43)
theorem pnX7_room : plainName kX7_room.1.cls = true := by decide
def kX7_join : q_MI := (yX7_join, cX7_join, 4, (some .int), 6, 136)
theorem pnX7_join : plainName kX7_join.1.cls = true := by decide
def kX7_wish : q_MI := (yX7_wish, cX7_wish, 5, (some .int), 6, 136)
theorem pnX7_wish : plainName kX7_wish.1.cls = true := by decide
def kX7_leave : q_MI := (yX7_leave, cX7_leave, 2, (some .int), 6, 134)
theorem pnX7_leave : plainName kX7_leave.1.cls = true := by decide
def kX7_close : q_MI := (yX7_close, cX7_close, 1, (some .int), 7, 154)
theorem pnX7_close : plainName kX7_close.1.cls = true := by decide
def kX7_term : q_MI := (yX7_term, cX7_term, 1, (some .int), 3, 64)
theorem pnX7_term : plainName kX7_term.1.cls = true := by decide
def kX7_waitsFor : q_MI := (yX7_waitsFor, cX7_waitsFor, 3, (some .boolean), 3, 66)
theorem pnX7_waitsFor : plainName kX7_waitsFor.1.cls = true := by decide
def kX7_waiting : q_MI := (yX7_waiting, cX7_waiting, 4, (some .int), 4, 88)
theorem pnX7_waiting : plainName kX7_waiting.1.cls = true := by decide
def kX7_told : q_MI := (yX7_told, cX7_told, 1, (some .int), 0, 0)
theorem pnX7_told : plainName kX7_told.1.cls = true := by decide
def kX7_courseOf : q_MI := (yX7_courseOf, cX7_courseOf, 4, (some .int), 5, 111)
theorem pnX7_courseOf : plainName kX7_courseOf.1.cls = true := by decide
def kX7_member : q_MI := (yX7_member, cX7_member, 3, (some .int), 2, 43)
theorem pnX7_member : plainName kX7_member.1.cls = true := by decide
def kX7_waits : q_MI := (yX7_waits, cX7_waits, 5, (some .int), 4, 88)
theorem pnX7_waits : plainName kX7_waits.1.cls = true := by decide
def kX7_personOf : q_MI := (yX7_personOf, cX7_personOf, 3, (some .int), 3, 66)
theorem pnX7_personOf : plainName kX7_personOf.1.cls = true := by decide
def kX7_roomOf : q_MI := (yX7_roomOf, cX7_roomOf, 6, (some .int), 2, 43)
theorem pnX7_roomOf : plainName kX7_roomOf.1.cls = true := by decide
def kX7_peopleInClasses : q_MI := (yX7_peopleInClasses, cX7_peopleInClasses, 3, (some .int), 2, 42)
theorem pnX7_peopleInClasses : plainName kX7_peopleInClasses.1.cls = true := by decide
def kX7_ifClose : q_MI := (yX7_ifClose, cX7_ifClose, 3, (some .int), 6, 134)
theorem pnX7_ifClose : plainName kX7_ifClose.1.cls = true := by decide
def kX7_beside : q_MI := (yX7_beside, cX7_beside, 2, (some .int), 3, 70)
theorem pnX7_beside : plainName kX7_beside.1.cls = true := by decide
def kX7_ifJoin : q_MI := (yX7_ifJoin, cX7_ifJoin, 2, (some .int), 3, 63)
theorem pnX7_ifJoin : plainName kX7_ifJoin.1.cls = true := by decide
def kX7_bitsOf : q_MI := (yX7_bitsOf, cX7_bitsOf, 3, (some .int), 0, 0)
theorem pnX7_bitsOf : plainName kX7_bitsOf.1.cls = true := by decide
def kX7_here : q_MI := (yX7_here, cX7_here, 3, (some .int), 1, 21)
theorem pnX7_here : plainName kX7_here.1.cls = true := by decide
def kX7_mean : q_MI := (yX7_mean, cX7_mean, 3, (some .int), 3, 66)
theorem pnX7_mean : plainName kX7_mean.1.cls = true := by decide
def kX7_withFree : q_MI := (yX7_withFree, cX7_withFree, 3, (some .int), 3, 63)
theorem pnX7_withFree : plainName kX7_withFree.1.cls = true := by decide
def kX7_count : q_MI := (yX7_count, cX7_count, 2, (some .int), 4, 85)
theorem pnX7_count : plainName kX7_count.1.cls = true := by decide
def kX7_undo : q_MI := (yX7_undo, cX7_undo, 2, (some .int), 0, 0)
theorem pnX7_undo : plainName kX7_undo.1.cls = true := by decide
def kX7_type : q_MI := (yX7_type, cX7_type, 2, (some .int), 1, 22)
theorem pnX7_type : plainName kX7_type.1.cls = true := by decide
def kX7_clearText : q_MI := (yX7_clearText, cX7_clearText, 2, (some .int), 0, 0)
theorem pnX7_clearText : plainName kX7_clearText.1.cls = true := by decide
def kX7_misfits : q_MI := (yX7_misfits, cX7_misfits, 2, none, 0, 0)
theorem pnX7_misfits : plainName kX7_misfits.1.cls = true := by decide
def kX7_isNext : q_MI := (yX7_isNext, cX7_isNext, 3, (some .boolean), 1, 22)
theorem pnX7_isNext : plainName kX7_isNext.1.cls = true := by decide
def kX7_spells : q_MI := (yX7_spells, cX7_spells, 6, (some .boolean), 0, 0)
theorem pnX7_spells : plainName kX7_spells.1.cls = true := by decide
def kX7_wordOf : q_MI := (yX7_wordOf, cX7_wordOf, 3, (some .int), 1, 25)
theorem pnX7_wordOf : plainName kX7_wordOf.1.cls = true := by decide
def kX7_readNumber : q_MI := (yX7_readNumber, cX7_readNumber, 2, none, 2, 44)
theorem pnX7_readNumber : plainName kX7_readNumber.1.cls = true := by decide
def kX7_readOrder : q_MI := (yX7_readOrder, cX7_readOrder, 4, none, 3, 65)
theorem pnX7_readOrder : plainName kX7_readOrder.1.cls = true := by decide
def kX7_doOrder : q_MI := (yX7_doOrder, cX7_doOrder, 4, (some .int), 7, 154)
theorem pnX7_doOrder : plainName kX7_doOrder.1.cls = true := by decide
def kX7_go : q_MI := (yX7_go, cX7_go, 3, (some .int), 8, 177)
theorem pnX7_go : plainName kX7_go.1.cls = true := by decide
def kX7_fault : q_MI := (yX7_fault, cX7_fault, 3, (some .int), 9, 199)
theorem pnX7_fault : plainName kX7_fault.1.cls = true := by decide
def kX7_play : q_MI := (yX7_play, cX7_play, 2, (some .int), 9, 199)
theorem pnX7_play : plainName kX7_play.1.cls = true := by decide
def kJ6_bitCount_0f7a4 : q_MI := (yJ6_bitCount_0f7a4, cJ6_bitCount_0f7a4, 1, (some .int), 0, 0)
theorem pnJ6_bitCount_0f7a4 : plainName kJ6_bitCount_0f7a4.1.cls = true := by decide
def kJ0_length_8abf5 : q_MI := (yJ0_length_8abf5, cJ0_length_8abf5, 1, (some .int), 1, 20)
theorem pnJ0_length_8abf5 : plainName kJ0_length_8abf5.1.cls = true := by decide
def kJ0_charAt_5068e : q_MI := (yJ0_charAt_5068e, cJ0_charAt_5068e, 2, (some .char), 4, 85)
theorem pnJ0_charAt_5068e : plainName kJ0_charAt_5068e.1.cls = true := by decide
def kJ0_coder_7d493 : q_MI := (yJ0_coder_7d493, cJ0_coder_7d493, 1, (some .byte), 0, 0)
theorem pnJ0_coder_7d493 : plainName kJ0_coder_7d493.1.cls = true := by decide
def kJ0_isLatin1_aae02 : q_MI := (yJ0_isLatin1_aae02, cJ0_isLatin1_aae02, 1, (some .boolean), 0, 0)
theorem pnJ0_isLatin1_aae02 : plainName kJ0_isLatin1_aae02.1.cls = true := by decide
def kJ0_checkIndex_df160 : q_MI := (yJ0_checkIndex_df160, cJ0_checkIndex_df160, 2, none, 1, 22)
theorem pnJ0_checkIndex_df160 : plainName kJ0_checkIndex_df160.1.cls = true := by decide
def kJ1_charAt_3b067 : q_MI := (yJ1_charAt_3b067, cJ1_charAt_3b067, 2, (some .char), 2, 43)
theorem pnJ1_charAt_3b067 : plainName kJ1_charAt_3b067.1.cls = true := by decide
def kJ3_checkIndex_8e157 : q_MI := (yJ3_checkIndex_8e157, cJ3_checkIndex_8e157, 3, (some .int), 0, 0)
theorem pnJ3_checkIndex_8e157 : plainName kJ3_checkIndex_8e157.1.cls = true := by decide
def kL_law : q_MI := (yL_law, cL_law, 4, (some .boolean), 10, 221)
theorem pnL_law : plainName kL_law.1.cls = true := by decide
end
section
/-! what the call sites link, what the pools name -/
theorem lk_RX0_52 : q_lkM RX0 52 Lib.Math.min.name Lib.Math.min.code := by decide +kernel
theorem lk_RX0_58 : q_wd (.methodLink RX0 58 arraycopyName) ∧ q_wd (.native arraycopyName) ∧ q_wd (.static arraycopyName) ∧ q_wd (.initialized "java/lang/System") := by decide +kernel
theorem lk_RX0_64 : q_lkV RX0 64 kX0_reopen 0 := by decide +kernel
theorem lk_RX0_67 : q_lkV RX0 67 kX0_levelsFrom 1 := by decide +kernel
theorem lk_RX1_22 : q_lkV RX1 22 kX3_copyFrom 1 := by decide +kernel
theorem lk_RX1_29 : q_lkM RX1 29 Lib.Math.min.name Lib.Math.min.code := by decide +kernel
theorem lk_RX2_37 : q_lkV RX2 37 kX2_setWishes 3 := by decide +kernel
theorem lk_RX2_41 : q_lkV RX2 41 kX2_rankOf 1 := by decide +kernel
theorem lk_RX2_45 : q_lkV RX2 45 kX2_rankHeld 0 := by decide +kernel
theorem lk_RX3_31 : q_lkV RX3 31 kX0_copyFrom 1 := by decide +kernel
theorem lk_RX3_35 : q_lkV RX3 35 kX2_copyFrom 1 := by decide +kernel
theorem lk_RX3_38 : q_lkM RX3 38 Lib.Math.min.name Lib.Math.min.code := by decide +kernel
theorem lk_RX3_44 : q_wd (.methodLink RX3 44 arraycopyName) ∧ q_wd (.native arraycopyName) ∧ q_wd (.static arraycopyName) ∧ q_wd (.initialized "java/lang/System") := by decide +kernel
theorem lk_RX3_85 : q_lkN kX6_isOutside 3 := by decide +kernel
theorem lk_RX3_92 : q_lkV RX3 92 kX0_begin 4 := by decide +kernel
theorem lk_RX3_97 : q_lkV RX3 97 kX3_areWishes 3 := by decide +kernel
theorem lk_RX3_100 : q_lkV RX3 100 kX2_setWishes 3 := by decide +kernel
theorem lk_RX3_107 : q_lkV RX3 107 kX3_settle 0 := by decide +kernel
theorem lk_RX3_111 : q_lkV RX3 111 kX3_personAt 1 := by decide +kernel
theorem lk_RX3_115 : q_lkV RX3 115 kX2_rankHeld 0 := by decide +kernel
theorem lk_RX3_120 : q_lkV RX3 120 kX3_goOut 1 := by decide +kernel
theorem lk_RX3_123 : q_lkV RX3 123 kX3_courseAt 1 := by decide +kernel
theorem lk_RX3_127 : q_lkV RX3 127 kX3_smallestTooSmall 0 := by decide +kernel
theorem lk_RX3_131 : q_lkV RX3 131 kX3_mergingOf 1 := by decide +kernel
theorem lk_RX3_135 : q_lkV RX3 135 kX3_cancel 2 := by decide +kernel
theorem lk_RX3_139 : q_lkV RX3 139 kX3_merge 2 := by decide +kernel
theorem lk_RX3_143 : q_lkV RX3 143 kX3_greatestOpen 0 := by decide +kernel
theorem lk_RX3_146 : q_lkV RX3 146 kX3_findsRoom 1 := by decide +kernel
theorem lk_RX3_150 : q_lkV RX3 150 kX3_coursesThatAre 1 := by decide +kernel
theorem lk_RX3_154 : q_lkS RX3 154 kJ6_bitCount_0f7a4 1 := by decide +kernel
theorem lk_RX3_159 : q_lkV RX3 159 kX3_paidForClasses 0 := by decide +kernel
theorem lk_RX3_165 : q_lkV RX3 165 kX0_reopen 0 := by decide +kernel
theorem lk_RX3_168 : q_lkV RX3 168 kX2_forget 0 := by decide +kernel
theorem lk_RX3_171 : q_lkV RX3 171 kX3_betterFor 1 := by decide +kernel
theorem lk_RX3_175 : q_lkV RX3 175 kX3_comeInto 2 := by decide +kernel
theorem lk_RX3_179 : q_lkV RX3 179 kX2_wishAt 1 := by decide +kernel
theorem lk_RX3_185 : q_lkV RX3 185 kX0_hasFreePlace 0 := by decide +kernel
theorem lk_RX3_189 : q_lkV RX3 189 kX0_add 1 := by decide +kernel
theorem lk_RX3_198 : q_lkV RX3 198 kX0_remove 1 := by decide +kernel
theorem lk_RX3_201 : q_lkV RX3 201 kX0_isTooSmall 0 := by decide +kernel
theorem lk_RX3_207 : q_lkV RX3 207 kX0_canTake 1 := by decide +kernel
theorem lk_RX3_210 : q_lkS RX3 210 kX3_isBetterMerging 3 := by decide +kernel
theorem lk_RX3_214 : q_lkV RX3 214 kX0_levelsFrom 1 := by decide +kernel
theorem lk_RX3_218 : q_lkV RX3 218 kX0_memberAt 1 := by decide +kernel
theorem lk_RX3_221 : q_lkM RX3 221 Lib.Math.max.name Lib.Math.max.code := by decide +kernel
theorem lk_RX3_230 : q_lkV RX3 230 kX3_roomFor 1 := by decide +kernel
theorem lk_RX3_236 : q_lkV RX3 236 kX3_chairsOf 1 := by decide +kernel
theorem lk_RX3_242 : q_lkV RX3 242 kX3_isGiven 2 := by decide +kernel
theorem lk_RX3_246 : q_lkV RX3 246 kX2_waitsFor 1 := by decide +kernel
theorem lk_RX4_23 : q_lkN kX6_isOutside 3 := by decide +kernel
theorem lk_RX4_37 : q_lkV RX4 37 kX4_wordAt 1 := by decide +kernel
theorem lk_RX4_41 : q_lkV RX4 41 kX4_readOrder 2 := by decide +kernel
theorem lk_RX4_45 : q_lkV RX4 45 kX4_answerTo 2 := by decide +kernel
theorem lk_RX4_58 : q_lkV RX4 58 kX4_numberAt 1 := by decide +kernel
theorem lk_RX4_62 : q_lkV RX4 62 kX3_addPerson 3 := by decide +kernel
theorem lk_RX4_71 : q_lkV RX4 71 kX3_changeWishes 4 := by decide +kernel
theorem lk_RX4_78 : q_lkV RX4 78 kX3_sendAway 1 := by decide +kernel
theorem lk_RX4_84 : q_lkV RX4 84 kX3_closeTerm 0 := by decide +kernel
theorem lk_RX4_88 : q_lkV RX4 88 kX3_beginNextTerm 0 := by decide +kernel
theorem lk_RX4_91 : q_lkV RX4 91 kX4_isLetter 1 := by decide +kernel
theorem lk_RX4_103 : q_lkV RX4 103 kX4_isBetween 3 := by decide +kernel
theorem lk_RX4_107 : q_lkV RX4 107 kJ0_length_8abf5 0 := by decide +kernel
theorem lk_RX4_111 : q_lkV RX4 111 kJ0_charAt_5068e 1 := by decide +kernel
theorem lk_RX4_115 : q_lkV RX4 115 kX4_characterAt 1 := by decide +kernel
theorem lk_RX4_121 : q_lkV RX4 121 kX4_notFitting 2 := by decide +kernel
theorem lk_RX4_125 : q_lkV RX4 125 kX4_readNumbers 3 := by decide +kernel
theorem lk_RX4_129 : q_lkV RX4 129 kX4_isDigit 1 := by decide +kernel
theorem lk_RX6_33 : q_lkV RX6 33 kX1_note 1 := by decide +kernel
theorem lk_RX6_37 : q_lkV RX6 37 kX3_addCourse 4 := by decide +kernel
theorem lk_RX6_41 : q_lkV RX6 41 kX1_keep 1 := by decide +kernel
theorem lk_RX6_45 : q_lkV RX6 45 kX3_addRoom 1 := by decide +kernel
theorem lk_RX6_48 : q_lkV RX6 48 kX3_addPerson 3 := by decide +kernel
theorem lk_RX6_52 : q_lkV RX6 52 kX3_changeWishes 4 := by decide +kernel
theorem lk_RX6_55 : q_lkV RX6 55 kX3_sendAway 1 := by decide +kernel
theorem lk_RX6_58 : q_lkV RX6 58 kX3_closeTerm 0 := by decide +kernel
theorem lk_RX6_62 : q_lkV RX6 62 kX3_beginNextTerm 0 := by decide +kernel
theorem lk_RX6_65 : q_lkV RX6 65 kX3_courseAt 1 := by decide +kernel
theorem lk_RX6_97 : q_lkV RX6 97 kX3_howManyWait 1 := by decide +kernel
theorem lk_RX6_103 : q_lkS RX6 103 kX6_foundOrNot 1 := by decide +kernel
theorem lk_RX6_109 : q_lkM RX6 109 Lib.Math.max.name Lib.Math.max.code := by decide +kernel
theorem lk_RX6_118 : q_lkV RX6 118 kX0_memberAt 1 := by decide +kernel
theorem lk_RX6_121 : q_lkV RX6 121 kX3_waiterAt 2 := by decide +kernel
theorem lk_RX6_124 : q_lkV RX6 124 kX3_personAt 1 := by decide +kernel
theorem lk_RX6_137 : q_lkV RX6 137 kX2_rankHeld 0 := by decide +kernel
theorem lk_RX6_155 : q_lkV RX6 155 kX3_isRoom 1 := by decide +kernel
theorem lk_RX6_159 : q_lkV RX6 159 kX3_chairsOf 1 := by decide +kernel
theorem lk_RX6_162 : q_lkV RX6 162 kX3_coursesIn 1 := by decide +kernel
theorem lk_RX6_165 : q_lkV RX6 165 kX3_chairsLeft 1 := by decide +kernel
theorem lk_RX6_168 : q_lkS RX6 168 kX6_isOutside 3 := by decide +kernel
theorem lk_RX6_176 : q_lkV RX6 176 kX3_copyFrom 1 := by decide +kernel
theorem lk_RX6_179 : q_lkV RX6 179 kX3_coursesThatAre 1 := by decide +kernel
theorem lk_RX6_182 : q_lkV RX6 182 kX3_peopleInClasses 0 := by decide +kernel
theorem lk_RX6_189 : q_lkV RX6 189 kX3_mergingOf 1 := by decide +kernel
theorem lk_RX6_201 : q_lkV RX6 201 kX0_hasFreePlace 0 := by decide +kernel
theorem lk_RX6_205 : q_lkV RX6 205 kX3_peopleHere 0 := by decide +kernel
theorem lk_RX6_208 : q_lkV RX6 208 kX3_ranksTogether 0 := by decide +kernel
theorem lk_RX6_211 : q_lkS RX6 211 kX6_bitsOf 1 := by decide +kernel
theorem lk_RX6_221 : q_lkV RX6 221 kX3_coursesWithPlace 0 := by decide +kernel
theorem lk_RX6_225 : q_lkV RX6 225 kX3_paidForClasses 0 := by decide +kernel
theorem lk_RX6_244 : q_lkV RX6 244 kX1_restoreInto 1 := by decide +kernel
theorem lk_RX6_248 : q_lkV RX6 248 kX4_append 1 := by decide +kernel
theorem lk_RX6_252 : q_lkV RX6 252 kX4_playOn 1 := by decide +kernel
theorem lk_RX7_25 : q_lkV RX7 25 kX7_putBack 0 := by decide +kernel
theorem lk_RX7_32 : q_lkS RX7 32 kX7_in 3 := by decide +kernel
theorem lk_RX7_36 : q_lkS RX7 36 kX7_of 2 := by decide +kernel
theorem lk_RX7_40 : q_lkS RX7 40 kX7_at 2 := by decide +kernel
theorem lk_RX7_43 : q_lkV RX7 43 kX7_isOpen 1 := by decide +kernel
theorem lk_RX7_47 : q_lkV RX7 47 kX7_people 1 := by decide +kernel
theorem lk_RX7_51 : q_lkV RX7 51 kX7_rankOf 2 := by decide +kernel
theorem lk_RX7_54 : q_lkV RX7 54 kX7_isHere 1 := by decide +kernel
theorem lk_RX7_57 : q_lkV RX7 57 kX7_rank 1 := by decide +kernel
theorem lk_RX7_60 : q_lkV RX7 60 kX7_hasFree 1 := by decide +kernel
theorem lk_RX7_63 : q_lkV RX7 63 kX7_better 1 := by decide +kernel
theorem lk_RX7_66 : q_lkV RX7 66 kX7_goesOut 1 := by decide +kernel
theorem lk_RX7_70 : q_lkV RX7 70 kX7_joins 2 := by decide +kernel
theorem lk_RX7_74 : q_lkV RX7 74 kX7_levelsApart 2 := by decide +kernel
theorem lk_RX7_77 : q_lkV RX7 77 kX7_isTaken 2 := by decide +kernel
theorem lk_RX7_81 : q_lkV RX7 81 kX7_smallest 0 := by decide +kernel
theorem lk_RX7_85 : q_lkV RX7 85 kX7_fitting 1 := by decide +kernel
theorem lk_RX7_88 : q_lkV RX7 88 kX7_cancels 2 := by decide +kernel
theorem lk_RX7_91 : q_lkV RX7 91 kX7_merges 2 := by decide +kernel
theorem lk_RX7_94 : q_lkV RX7 94 kX7_settle 0 := by decide +kernel
theorem lk_RX7_97 : q_lkV RX7 97 kX7_greatest 0 := by decide +kernel
theorem lk_RX7_100 : q_lkV RX7 100 kX7_roomFor 1 := by decide +kernel
theorem lk_RX7_103 : q_lkV RX7 103 kX7_isCourse 1 := by decide +kernel
theorem lk_RX7_106 : q_lkV RX7 106 kX7_areWishes 3 := by decide +kernel
theorem lk_RX7_112 : q_lkV RX7 112 kX7_wishes 4 := by decide +kernel
theorem lk_RX7_116 : q_lkV RX7 116 kX7_isPerson 1 := by decide +kernel
theorem lk_RX7_119 : q_lkV RX7 119 kX7_closes 0 := by decide +kernel
theorem lk_RX7_122 : q_lkV RX7 122 kX7_inState 1 := by decide +kernel
theorem lk_RX7_125 : q_lkS RX7 125 kX7_size 1 := by decide +kernel
theorem lk_RX7_128 : q_lkV RX7 128 kX7_paidNow 0 := by decide +kernel
theorem lk_RX7_131 : q_lkV RX7 131 kX7_putAside 0 := by decide +kernel
theorem lk_RX7_134 : q_lkV RX7 134 kX7_change 1 := by decide +kernel
theorem lk_RX7_137 : q_lkV RX7 137 kX7_comes 3 := by decide +kernel
theorem lk_RX7_141 : q_lkV RX7 141 kX7_changesWishes 4 := by decide +kernel
theorem lk_RX7_145 : q_lkV RX7 145 kX7_leaves 1 := by decide +kernel
theorem lk_RX7_148 : q_lkV RX7 148 kX7_closesTerm 0 := by decide +kernel
theorem lk_RX7_151 : q_lkV RX7 151 kX7_beginsTerm 0 := by decide +kernel
theorem lk_RX7_154 : q_lkV RX7 154 kX7_waitsFor 2 := by decide +kernel
theorem lk_RX7_158 : q_lkV RX7 158 kX7_waiting 1 := by decide +kernel
theorem lk_RX7_161 : q_lkS RX7 161 kX7_told 1 := by decide +kernel
theorem lk_RX7_164 : q_lkV RX7 164 kX7_isRoom 1 := by decide +kernel
theorem lk_RX7_167 : q_lkV RX7 167 kX7_peopleInClasses 0 := by decide +kernel
theorem lk_RX7_172 : q_lkV RX7 172 kX7_here 0 := by decide +kernel
theorem lk_RX7_175 : q_lkS RX7 175 kX7_bitsOf 1 := by decide +kernel
theorem lk_RX7_179 : q_lkV RX7 179 kX7_withFree 0 := by decide +kernel
theorem lk_RX7_197 : q_lkV RX7 197 kX7_spells 5 := by decide +kernel
theorem lk_RX7_201 : q_lkV RX7 201 kX7_isNext 2 := by decide +kernel
theorem lk_RX7_204 : q_lkV RX7 204 kX7_misfits 1 := by decide +kernel
theorem lk_RX7_210 : q_lkV RX7 210 kX7_wordOf 1 := by decide +kernel
theorem lk_RX7_216 : q_lkV RX7 216 kX7_readNumber 0 := by decide +kernel
theorem lk_RX7_219 : q_lkV RX7 219 kX7_readOrder 0 := by decide +kernel
theorem lk_RX7_222 : q_lkV RX7 222 kX7_doOrder 0 := by decide +kernel
theorem lk_RX7_225 : q_lkV RX7 225 kX7_go 0 := by decide +kernel
theorem lk_RJ0_335 : q_lkV RJ0 335 kJ0_coder_7d493 0 := by decide +kernel
theorem lk_RJ0_492 : q_lkV RJ0 492 kJ0_isLatin1_aae02 0 := by decide +kernel
theorem lk_RJ0_495 : q_lkS RJ0 495 kJ1_charAt_3b067 2 := by decide +kernel
theorem lk_RJ0_1059 : q_lkS RJ0 1059 kJ3_checkIndex_8e157 3 := by decide +kernel
theorem lk_RJ1_9 : q_lkS RJ1 9 kJ0_checkIndex_df160 2 := by decide +kernel
theorem lk_RL_13 : q_lkV RL 13 kX6_course 4 := by decide +kernel
theorem lk_RL_17 : q_lkV RL 17 kX7_course 4 := by decide +kernel
theorem lk_RL_18 : q_lkV RL 18 kX6_room 1 := by decide +kernel
theorem lk_RL_22 : q_lkV RL 22 kX7_room 1 := by decide +kernel
theorem lk_RL_23 : q_lkV RL 23 kX6_join 3 := by decide +kernel
theorem lk_RL_27 : q_lkV RL 27 kX7_join 3 := by decide +kernel
theorem lk_RL_28 : q_lkV RL 28 kX6_wish 4 := by decide +kernel
theorem lk_RL_31 : q_lkV RL 31 kX7_wish 4 := by decide +kernel
theorem lk_RL_32 : q_lkV RL 32 kX6_leave 1 := by decide +kernel
theorem lk_RL_35 : q_lkV RL 35 kX7_leave 1 := by decide +kernel
theorem lk_RL_36 : q_lkV RL 36 kX6_close 0 := by decide +kernel
theorem lk_RL_40 : q_lkV RL 40 kX7_close 0 := by decide +kernel
theorem lk_RL_41 : q_lkV RL 41 kX6_term 0 := by decide +kernel
theorem lk_RL_44 : q_lkV RL 44 kX7_term 0 := by decide +kernel
theorem lk_RL_45 : q_lkV RL 45 kX6_courseOf 2 := by decide +kernel
theorem lk_RL_49 : q_lkV RL 49 kX7_courseOf 2 := by decide +kernel
theorem lk_RL_50 : q_lkV RL 50 kX6_member 2 := by decide +kernel
theorem lk_RL_53 : q_lkV RL 53 kX7_member 2 := by decide +kernel
theorem lk_RL_54 : q_lkV RL 54 kX6_waits 2 := by decide +kernel
theorem lk_RL_57 : q_lkV RL 57 kX7_waits 2 := by decide +kernel
theorem lk_RL_58 : q_lkV RL 58 kX6_personOf 2 := by decide +kernel
theorem lk_RL_61 : q_lkV RL 61 kX7_personOf 2 := by decide +kernel
theorem lk_RL_62 : q_lkV RL 62 kX6_roomOf 2 := by decide +kernel
theorem lk_RL_65 : q_lkV RL 65 kX7_roomOf 2 := by decide +kernel
theorem lk_RL_66 : q_lkV RL 66 kX6_ifClose 1 := by decide +kernel
theorem lk_RL_69 : q_lkV RL 69 kX7_ifClose 1 := by decide +kernel
theorem lk_RL_70 : q_lkV RL 70 kX6_beside 1 := by decide +kernel
theorem lk_RL_73 : q_lkV RL 73 kX7_beside 1 := by decide +kernel
theorem lk_RL_74 : q_lkV RL 74 kX6_ifJoin 1 := by decide +kernel
theorem lk_RL_77 : q_lkV RL 77 kX7_ifJoin 1 := by decide +kernel
theorem lk_RL_78 : q_lkV RL 78 kX6_mean 0 := by decide +kernel
theorem lk_RL_81 : q_lkV RL 81 kX7_mean 0 := by decide +kernel
theorem lk_RL_82 : q_lkV RL 82 kX6_count 1 := by decide +kernel
theorem lk_RL_85 : q_lkV RL 85 kX7_count 1 := by decide +kernel
theorem lk_RL_86 : q_lkV RL 86 kX6_undo 0 := by decide +kernel
theorem lk_RL_89 : q_lkV RL 89 kX7_undo 0 := by decide +kernel
theorem lk_RL_90 : q_lkV RL 90 kX6_type 1 := by decide +kernel
theorem lk_RL_93 : q_lkV RL 93 kX7_type 1 := by decide +kernel
theorem lk_RL_94 : q_lkV RL 94 kX6_clearText 0 := by decide +kernel
theorem lk_RL_97 : q_lkV RL 97 kX7_clearText 0 := by decide +kernel
theorem lk_RL_98 : q_lkV RL 98 kX6_fault 1 := by decide +kernel
theorem lk_RL_101 : q_lkV RL 101 kX7_fault 1 := by decide +kernel
theorem lk_RL_102 : q_lkV RL 102 kX6_play 0 := by decide +kernel
theorem lk_RL_105 : q_lkV RL 105 kX7_play 0 := by decide +kernel
theorem fl_RX0_9 : 0 < 7 ∧ 1 < q_nf 0 ∧ q_wd (Cond.fieldLink RX0 9 ((q_T 0) 1).1 ((q_T 0) 1).2.1 ((q_T 0) 1).2.2.1) := by decide +kernel
theorem fl_RX0_15 : 0 < 7 ∧ 8 < q_nf 0 ∧ q_wd (Cond.fieldLink RX0 15 ((q_T 0) 8).1 ((q_T 0) 8).2.1 ((q_T 0) 8).2.2.1) := by decide +kernel
theorem fl_RX0_19 : 0 < 7 ∧ 10 < q_nf 0 ∧ q_wd (Cond.fieldLink RX0 19 ((q_T 0) 10).1 ((q_T 0) 10).2.1 ((q_T 0) 10).2.2.1) := by decide +kernel
theorem fl_RX0_22 : 0 < 7 ∧ 11 < q_nf 0 ∧ q_wd (Cond.fieldLink RX0 22 ((q_T 0) 11).1 ((q_T 0) 11).2.1 ((q_T 0) 11).2.2.1) := by decide +kernel
theorem fl_RX0_25 : 0 < 7 ∧ 0 < q_nf 0 ∧ q_wd (Cond.fieldLink RX0 25 ((q_T 0) 0).1 ((q_T 0) 0).2.1 ((q_T 0) 0).2.2.1) := by decide +kernel
theorem fl_RX0_28 : 0 < 7 ∧ 2 < q_nf 0 ∧ q_wd (Cond.fieldLink RX0 28 ((q_T 0) 2).1 ((q_T 0) 2).2.1 ((q_T 0) 2).2.2.1) := by decide +kernel
theorem fl_RX0_31 : 0 < 7 ∧ 3 < q_nf 0 ∧ q_wd (Cond.fieldLink RX0 31 ((q_T 0) 3).1 ((q_T 0) 3).2.1 ((q_T 0) 3).2.2.1) := by decide +kernel
theorem fl_RX0_34 : 0 < 7 ∧ 4 < q_nf 0 ∧ q_wd (Cond.fieldLink RX0 34 ((q_T 0) 4).1 ((q_T 0) 4).2.1 ((q_T 0) 4).2.2.1) := by decide +kernel
theorem fl_RX0_37 : 0 < 7 ∧ 5 < q_nf 0 ∧ q_wd (Cond.fieldLink RX0 37 ((q_T 0) 5).1 ((q_T 0) 5).2.1 ((q_T 0) 5).2.2.1) := by decide +kernel
theorem fl_RX0_40 : 0 < 7 ∧ 6 < q_nf 0 ∧ q_wd (Cond.fieldLink RX0 40 ((q_T 0) 6).1 ((q_T 0) 6).2.1 ((q_T 0) 6).2.2.1) := by decide +kernel
theorem fl_RX0_43 : 0 < 7 ∧ 7 < q_nf 0 ∧ q_wd (Cond.fieldLink RX0 43 ((q_T 0) 7).1 ((q_T 0) 7).2.1 ((q_T 0) 7).2.2.1) := by decide +kernel
theorem fl_RX0_46 : 0 < 7 ∧ 9 < q_nf 0 ∧ q_wd (Cond.fieldLink RX0 46 ((q_T 0) 9).1 ((q_T 0) 9).2.1 ((q_T 0) 9).2.2.1) := by decide +kernel
theorem fl_RX0_49 : 0 < 7 ∧ 12 < q_nf 0 ∧ q_wd (Cond.fieldLink RX0 49 ((q_T 0) 12).1 ((q_T 0) 12).2.1 ((q_T 0) 12).2.2.1) := by decide +kernel
theorem fl_RX2_9 : 2 < 7 ∧ 2 < q_nf 2 ∧ q_wd (Cond.fieldLink RX2 9 ((q_T 2) 2).1 ((q_T 2) 2).2.1 ((q_T 2) 2).2.2.1) := by decide +kernel
theorem fl_RX2_15 : 2 < 7 ∧ 5 < q_nf 2 ∧ q_wd (Cond.fieldLink RX2 15 ((q_T 2) 5).1 ((q_T 2) 5).2.1 ((q_T 2) 5).2.2.1) := by decide +kernel
theorem fl_RX2_18 : 2 < 7 ∧ 6 < q_nf 2 ∧ q_wd (Cond.fieldLink RX2 18 ((q_T 2) 6).1 ((q_T 2) 6).2.1 ((q_T 2) 6).2.2.1) := by decide +kernel
theorem fl_RX2_21 : 2 < 7 ∧ 7 < q_nf 2 ∧ q_wd (Cond.fieldLink RX2 21 ((q_T 2) 7).1 ((q_T 2) 7).2.1 ((q_T 2) 7).2.2.1) := by decide +kernel
theorem fl_RX2_24 : 2 < 7 ∧ 0 < q_nf 2 ∧ q_wd (Cond.fieldLink RX2 24 ((q_T 2) 0).1 ((q_T 2) 0).2.1 ((q_T 2) 0).2.2.1) := by decide +kernel
theorem fl_RX3_11 : 3 < 7 ∧ 0 < q_nf 3 ∧ q_wd (Cond.fieldLink RX3 11 ((q_T 3) 0).1 ((q_T 3) 0).2.1 ((q_T 3) 0).2.2.1) := by decide +kernel
theorem fl_RX3_19 : 3 < 7 ∧ 1 < q_nf 3 ∧ q_wd (Cond.fieldLink RX3 19 ((q_T 3) 1).1 ((q_T 3) 1).2.1 ((q_T 3) 1).2.2.1) := by decide +kernel
theorem fl_RX3_23 : 3 < 7 ∧ 2 < q_nf 3 ∧ q_wd (Cond.fieldLink RX3 23 ((q_T 3) 2).1 ((q_T 3) 2).2.1 ((q_T 3) 2).2.2.1) := by decide +kernel
theorem fl_RX1_11 : 1 < 7 ∧ 0 < q_nf 1 ∧ q_wd (Cond.fieldLink RX1 11 ((q_T 1) 0).1 ((q_T 1) 0).2.1 ((q_T 1) 0).2.2.1) := by decide +kernel
theorem fl_RX2_27 : 2 < 7 ∧ 1 < q_nf 2 ∧ q_wd (Cond.fieldLink RX2 27 ((q_T 2) 1).1 ((q_T 2) 1).2.1 ((q_T 2) 1).2.2.1) := by decide +kernel
theorem fl_RX2_31 : 2 < 7 ∧ 3 < q_nf 2 ∧ q_wd (Cond.fieldLink RX2 31 ((q_T 2) 3).1 ((q_T 2) 3).2.1 ((q_T 2) 3).2.2.1) := by decide +kernel
theorem fl_RX2_34 : 2 < 7 ∧ 4 < q_nf 2 ∧ q_wd (Cond.fieldLink RX2 34 ((q_T 2) 4).1 ((q_T 2) 4).2.1 ((q_T 2) 4).2.2.1) := by decide +kernel
theorem fl_RX3_50 : 3 < 7 ∧ 3 < q_nf 3 ∧ q_wd (Cond.fieldLink RX3 50 ((q_T 3) 3).1 ((q_T 3) 3).2.1 ((q_T 3) 3).2.2.1) := by decide +kernel
theorem fl_RX3_54 : 3 < 7 ∧ 4 < q_nf 3 ∧ q_wd (Cond.fieldLink RX3 54 ((q_T 3) 4).1 ((q_T 3) 4).2.1 ((q_T 3) 4).2.2.1) := by decide +kernel
theorem fl_RX3_57 : 3 < 7 ∧ 5 < q_nf 3 ∧ q_wd (Cond.fieldLink RX3 57 ((q_T 3) 5).1 ((q_T 3) 5).2.1 ((q_T 3) 5).2.2.1) := by decide +kernel
theorem fl_RX3_60 : 3 < 7 ∧ 6 < q_nf 3 ∧ q_wd (Cond.fieldLink RX3 60 ((q_T 3) 6).1 ((q_T 3) 6).2.1 ((q_T 3) 6).2.2.1) := by decide +kernel
theorem fl_RX3_63 : 3 < 7 ∧ 7 < q_nf 3 ∧ q_wd (Cond.fieldLink RX3 63 ((q_T 3) 7).1 ((q_T 3) 7).2.1 ((q_T 3) 7).2.2.1) := by decide +kernel
theorem fl_RX3_67 : 3 < 7 ∧ 8 < q_nf 3 ∧ q_wd (Cond.fieldLink RX3 67 ((q_T 3) 8).1 ((q_T 3) 8).2.1 ((q_T 3) 8).2.2.1) := by decide +kernel
theorem fl_RX3_70 : 3 < 7 ∧ 9 < q_nf 3 ∧ q_wd (Cond.fieldLink RX3 70 ((q_T 3) 9).1 ((q_T 3) 9).2.1 ((q_T 3) 9).2.2.1) := by decide +kernel
theorem fl_RX3_73 : 3 < 7 ∧ 10 < q_nf 3 ∧ q_wd (Cond.fieldLink RX3 73 ((q_T 3) 10).1 ((q_T 3) 10).2.1 ((q_T 3) 10).2.2.1) := by decide +kernel
theorem fl_RX3_76 : 3 < 7 ∧ 11 < q_nf 3 ∧ q_wd (Cond.fieldLink RX3 76 ((q_T 3) 11).1 ((q_T 3) 11).2.1 ((q_T 3) 11).2.2.1) := by decide +kernel
theorem fl_RX3_79 : 3 < 7 ∧ 12 < q_nf 3 ∧ q_wd (Cond.fieldLink RX3 79 ((q_T 3) 12).1 ((q_T 3) 12).2.1 ((q_T 3) 12).2.2.1) := by decide +kernel
theorem fl_RX3_82 : 3 < 7 ∧ 13 < q_nf 3 ∧ q_wd (Cond.fieldLink RX3 82 ((q_T 3) 13).1 ((q_T 3) 13).2.1 ((q_T 3) 13).2.2.1) := by decide +kernel
theorem fl_RX1_18 : 1 < 7 ∧ 1 < q_nf 1 ∧ q_wd (Cond.fieldLink RX1 18 ((q_T 1) 1).1 ((q_T 1) 1).2.1 ((q_T 1) 1).2.2.1) := by decide +kernel
theorem fl_RX1_26 : 1 < 7 ∧ 2 < q_nf 1 ∧ q_wd (Cond.fieldLink RX1 26 ((q_T 1) 2).1 ((q_T 1) 2).2.1 ((q_T 1) 2).2.2.1) := by decide +kernel
theorem fl_RX3_96 : 0 < 7 ∧ 0 < q_nf 0 ∧ q_wd (Cond.fieldLink RX3 96 ((q_T 0) 0).1 ((q_T 0) 0).2.1 ((q_T 0) 0).2.2.1) := by decide +kernel
theorem fl_RX3_104 : 2 < 7 ∧ 1 < q_nf 2 ∧ q_wd (Cond.fieldLink RX3 104 ((q_T 2) 1).1 ((q_T 2) 1).2.1 ((q_T 2) 1).2.2.1) := by decide +kernel
theorem fl_RX3_182 : 2 < 7 ∧ 2 < q_nf 2 ∧ q_wd (Cond.fieldLink RX3 182 ((q_T 2) 2).1 ((q_T 2) 2).2.1 ((q_T 2) 2).2.2.1) := by decide +kernel
theorem fl_RX3_110 : 2 < 7 ∧ 0 < q_nf 2 ∧ q_wd (Cond.fieldLink RX3 110 ((q_T 2) 0).1 ((q_T 2) 0).2.1 ((q_T 2) 0).2.2.1) := by decide +kernel
theorem fl_RX3_119 : 2 < 7 ∧ 3 < q_nf 2 ∧ q_wd (Cond.fieldLink RX3 119 ((q_T 2) 3).1 ((q_T 2) 3).2.1 ((q_T 2) 3).2.2.1) := by decide +kernel
theorem fl_RX3_192 : 0 < 7 ∧ 7 < q_nf 0 ∧ q_wd (Cond.fieldLink RX3 192 ((q_T 0) 7).1 ((q_T 0) 7).2.1 ((q_T 0) 7).2.2.1) := by decide +kernel
theorem fl_RX3_195 : 2 < 7 ∧ 4 < q_nf 2 ∧ q_wd (Cond.fieldLink RX3 195 ((q_T 2) 4).1 ((q_T 2) 4).2.1 ((q_T 2) 4).2.2.1) := by decide +kernel
theorem fl_RX3_204 : 0 < 7 ∧ 12 < q_nf 0 ∧ q_wd (Cond.fieldLink RX3 204 ((q_T 0) 12).1 ((q_T 0) 12).2.1 ((q_T 0) 12).2.2.1) := by decide +kernel
theorem fl_RX3_162 : 0 < 7 ∧ 8 < q_nf 0 ∧ q_wd (Cond.fieldLink RX3 162 ((q_T 0) 8).1 ((q_T 0) 8).2.1 ((q_T 0) 8).2.2.1) := by decide +kernel
theorem fl_RX3_224 : 0 < 7 ∧ 9 < q_nf 0 ∧ q_wd (Cond.fieldLink RX3 224 ((q_T 0) 9).1 ((q_T 0) 9).2.1 ((q_T 0) 9).2.2.1) := by decide +kernel
theorem fl_RX3_227 : 0 < 7 ∧ 10 < q_nf 0 ∧ q_wd (Cond.fieldLink RX3 227 ((q_T 0) 10).1 ((q_T 0) 10).2.1 ((q_T 0) 10).2.2.1) := by decide +kernel
theorem fl_RX3_233 : 0 < 7 ∧ 11 < q_nf 0 ∧ q_wd (Cond.fieldLink RX3 233 ((q_T 0) 11).1 ((q_T 0) 11).2.1 ((q_T 0) 11).2.2.1) := by decide +kernel
theorem fl_RX3_239 : 0 < 7 ∧ 4 < q_nf 0 ∧ q_wd (Cond.fieldLink RX3 239 ((q_T 0) 4).1 ((q_T 0) 4).2.1 ((q_T 0) 4).2.2.1) := by decide +kernel
theorem fl_RX4_9 : 4 < 7 ∧ 0 < q_nf 4 ∧ q_wd (Cond.fieldLink RX4 9 ((q_T 4) 0).1 ((q_T 4) 0).2.1 ((q_T 4) 0).2.2.1) := by decide +kernel
theorem fl_RX4_15 : 4 < 7 ∧ 1 < q_nf 4 ∧ q_wd (Cond.fieldLink RX4 15 ((q_T 4) 1).1 ((q_T 4) 1).2.1 ((q_T 4) 1).2.2.1) := by decide +kernel
theorem fl_RX4_19 : 4 < 7 ∧ 2 < q_nf 4 ∧ q_wd (Cond.fieldLink RX4 19 ((q_T 4) 2).1 ((q_T 4) 2).2.1 ((q_T 4) 2).2.2.1) := by decide +kernel
theorem fl_RX4_49 : 4 < 7 ∧ 6 < q_nf 4 ∧ q_wd (Cond.fieldLink RX4 49 ((q_T 4) 6).1 ((q_T 4) 6).2.1 ((q_T 4) 6).2.2.1) := by decide +kernel
theorem fl_RX4_28 : 4 < 7 ∧ 3 < q_nf 4 ∧ q_wd (Cond.fieldLink RX4 28 ((q_T 4) 3).1 ((q_T 4) 3).2.1 ((q_T 4) 3).2.2.1) := by decide +kernel
theorem fl_RX4_31 : 4 < 7 ∧ 5 < q_nf 4 ∧ q_wd (Cond.fieldLink RX4 31 ((q_T 4) 5).1 ((q_T 4) 5).2.1 ((q_T 4) 5).2.2.1) := by decide +kernel
theorem fl_RX4_34 : 4 < 7 ∧ 4 < q_nf 4 ∧ q_wd (Cond.fieldLink RX4 34 ((q_T 4) 4).1 ((q_T 4) 4).2.1 ((q_T 4) 4).2.2.1) := by decide +kernel
theorem fl_RX6_10 : 5 < 7 ∧ 0 < q_nf 5 ∧ q_wd (Cond.fieldLink RX6 10 ((q_T 5) 0).1 ((q_T 5) 0).2.1 ((q_T 5) 0).2.2.1) := by decide +kernel
theorem fl_RX6_16 : 5 < 7 ∧ 1 < q_nf 5 ∧ q_wd (Cond.fieldLink RX6 16 ((q_T 5) 1).1 ((q_T 5) 1).2.1 ((q_T 5) 1).2.2.1) := by decide +kernel
theorem fl_RX6_22 : 5 < 7 ∧ 2 < q_nf 5 ∧ q_wd (Cond.fieldLink RX6 22 ((q_T 5) 2).1 ((q_T 5) 2).2.1 ((q_T 5) 2).2.2.1) := by decide +kernel
theorem fl_RX6_29 : 5 < 7 ∧ 3 < q_nf 5 ∧ q_wd (Cond.fieldLink RX6 29 ((q_T 5) 3).1 ((q_T 5) 3).2.1 ((q_T 5) 3).2.2.1) := by decide +kernel
theorem fl_RX6_70 : 0 < 7 ∧ 2 < q_nf 0 ∧ q_wd (Cond.fieldLink RX6 70 ((q_T 0) 2).1 ((q_T 0) 2).2.1 ((q_T 0) 2).2.2.1) := by decide +kernel
theorem fl_RX6_76 : 0 < 7 ∧ 3 < q_nf 0 ∧ q_wd (Cond.fieldLink RX6 76 ((q_T 0) 3).1 ((q_T 0) 3).2.1 ((q_T 0) 3).2.2.1) := by decide +kernel
theorem fl_RX6_79 : 0 < 7 ∧ 4 < q_nf 0 ∧ q_wd (Cond.fieldLink RX6 79 ((q_T 0) 4).1 ((q_T 0) 4).2.1 ((q_T 0) 4).2.2.1) := by decide +kernel
theorem fl_RX6_82 : 0 < 7 ∧ 5 < q_nf 0 ∧ q_wd (Cond.fieldLink RX6 82 ((q_T 0) 5).1 ((q_T 0) 5).2.1 ((q_T 0) 5).2.2.1) := by decide +kernel
theorem fl_RX6_85 : 0 < 7 ∧ 6 < q_nf 0 ∧ q_wd (Cond.fieldLink RX6 85 ((q_T 0) 6).1 ((q_T 0) 6).2.1 ((q_T 0) 6).2.2.1) := by decide +kernel
theorem fl_RX6_88 : 0 < 7 ∧ 7 < q_nf 0 ∧ q_wd (Cond.fieldLink RX6 88 ((q_T 0) 7).1 ((q_T 0) 7).2.1 ((q_T 0) 7).2.2.1) := by decide +kernel
theorem fl_RX6_91 : 0 < 7 ∧ 8 < q_nf 0 ∧ q_wd (Cond.fieldLink RX6 91 ((q_T 0) 8).1 ((q_T 0) 8).2.1 ((q_T 0) 8).2.2.1) := by decide +kernel
theorem fl_RX6_94 : 0 < 7 ∧ 12 < q_nf 0 ∧ q_wd (Cond.fieldLink RX6 94 ((q_T 0) 12).1 ((q_T 0) 12).2.1 ((q_T 0) 12).2.2.1) := by decide +kernel
theorem fl_RX6_100 : 0 < 7 ∧ 11 < q_nf 0 ∧ q_wd (Cond.fieldLink RX6 100 ((q_T 0) 11).1 ((q_T 0) 11).2.1 ((q_T 0) 11).2.2.1) := by decide +kernel
theorem fl_RX6_106 : 0 < 7 ∧ 10 < q_nf 0 ∧ q_wd (Cond.fieldLink RX6 106 ((q_T 0) 10).1 ((q_T 0) 10).2.1 ((q_T 0) 10).2.2.1) := by decide +kernel
theorem fl_RX6_115 : 0 < 7 ∧ 9 < q_nf 0 ∧ q_wd (Cond.fieldLink RX6 115 ((q_T 0) 9).1 ((q_T 0) 9).2.1 ((q_T 0) 9).2.2.1) := by decide +kernel
theorem fl_RX6_128 : 2 < 7 ∧ 1 < q_nf 2 ∧ q_wd (Cond.fieldLink RX6 128 ((q_T 2) 1).1 ((q_T 2) 1).2.1 ((q_T 2) 1).2.2.1) := by decide +kernel
theorem fl_RX6_134 : 2 < 7 ∧ 2 < q_nf 2 ∧ q_wd (Cond.fieldLink RX6 134 ((q_T 2) 2).1 ((q_T 2) 2).2.1 ((q_T 2) 2).2.2.1) := by decide +kernel
theorem fl_RX6_140 : 2 < 7 ∧ 3 < q_nf 2 ∧ q_wd (Cond.fieldLink RX6 140 ((q_T 2) 3).1 ((q_T 2) 3).2.1 ((q_T 2) 3).2.2.1) := by decide +kernel
theorem fl_RX6_143 : 2 < 7 ∧ 4 < q_nf 2 ∧ q_wd (Cond.fieldLink RX6 143 ((q_T 2) 4).1 ((q_T 2) 4).2.1 ((q_T 2) 4).2.2.1) := by decide +kernel
theorem fl_RX6_146 : 2 < 7 ∧ 5 < q_nf 2 ∧ q_wd (Cond.fieldLink RX6 146 ((q_T 2) 5).1 ((q_T 2) 5).2.1 ((q_T 2) 5).2.2.1) := by decide +kernel
theorem fl_RX6_149 : 2 < 7 ∧ 6 < q_nf 2 ∧ q_wd (Cond.fieldLink RX6 149 ((q_T 2) 6).1 ((q_T 2) 6).2.1 ((q_T 2) 6).2.2.1) := by decide +kernel
theorem fl_RX6_152 : 2 < 7 ∧ 7 < q_nf 2 ∧ q_wd (Cond.fieldLink RX6 152 ((q_T 2) 7).1 ((q_T 2) 7).2.1 ((q_T 2) 7).2.2.1) := by decide +kernel
theorem fl_RX6_172 : 3 < 7 ∧ 7 < q_nf 3 ∧ q_wd (Cond.fieldLink RX6 172 ((q_T 3) 7).1 ((q_T 3) 7).2.1 ((q_T 3) 7).2.2.1) := by decide +kernel
theorem fl_RX6_185 : 3 < 7 ∧ 9 < q_nf 3 ∧ q_wd (Cond.fieldLink RX6 185 ((q_T 3) 9).1 ((q_T 3) 9).2.1 ((q_T 3) 9).2.2.1) := by decide +kernel
theorem fl_RX6_188 : 3 < 7 ∧ 8 < q_nf 3 ∧ q_wd (Cond.fieldLink RX6 188 ((q_T 3) 8).1 ((q_T 3) 8).2.1 ((q_T 3) 8).2.2.1) := by decide +kernel
theorem fl_RX6_194 : 0 < 7 ∧ 0 < q_nf 0 ∧ q_wd (Cond.fieldLink RX6 194 ((q_T 0) 0).1 ((q_T 0) 0).2.1 ((q_T 0) 0).2.2.1) := by decide +kernel
theorem fl_RX6_197 : 3 < 7 ∧ 4 < q_nf 3 ∧ q_wd (Cond.fieldLink RX6 197 ((q_T 3) 4).1 ((q_T 3) 4).2.1 ((q_T 3) 4).2.2.1) := by decide +kernel
theorem fl_RX6_215 : 3 < 7 ∧ 3 < q_nf 3 ∧ q_wd (Cond.fieldLink RX6 215 ((q_T 3) 3).1 ((q_T 3) 3).2.1 ((q_T 3) 3).2.2.1) := by decide +kernel
theorem fl_RX6_218 : 3 < 7 ∧ 5 < q_nf 3 ∧ q_wd (Cond.fieldLink RX6 218 ((q_T 3) 5).1 ((q_T 3) 5).2.1 ((q_T 3) 5).2.2.1) := by decide +kernel
theorem fl_RX6_224 : 3 < 7 ∧ 6 < q_nf 3 ∧ q_wd (Cond.fieldLink RX6 224 ((q_T 3) 6).1 ((q_T 3) 6).2.1 ((q_T 3) 6).2.2.1) := by decide +kernel
theorem fl_RX6_228 : 3 < 7 ∧ 10 < q_nf 3 ∧ q_wd (Cond.fieldLink RX6 228 ((q_T 3) 10).1 ((q_T 3) 10).2.1 ((q_T 3) 10).2.2.1) := by decide +kernel
theorem fl_RX6_231 : 3 < 7 ∧ 11 < q_nf 3 ∧ q_wd (Cond.fieldLink RX6 231 ((q_T 3) 11).1 ((q_T 3) 11).2.1 ((q_T 3) 11).2.2.1) := by decide +kernel
theorem fl_RX6_234 : 3 < 7 ∧ 12 < q_nf 3 ∧ q_wd (Cond.fieldLink RX6 234 ((q_T 3) 12).1 ((q_T 3) 12).2.1 ((q_T 3) 12).2.2.1) := by decide +kernel
theorem fl_RX6_237 : 3 < 7 ∧ 13 < q_nf 3 ∧ q_wd (Cond.fieldLink RX6 237 ((q_T 3) 13).1 ((q_T 3) 13).2.1 ((q_T 3) 13).2.2.1) := by decide +kernel
theorem fl_RX6_240 : 1 < 7 ∧ 2 < q_nf 1 ∧ q_wd (Cond.fieldLink RX6 240 ((q_T 1) 2).1 ((q_T 1) 2).2.1 ((q_T 1) 2).2.2.1) := by decide +kernel
theorem fl_RX6_241 : 4 < 7 ∧ 2 < q_nf 4 ∧ q_wd (Cond.fieldLink RX6 241 ((q_T 4) 2).1 ((q_T 4) 2).2.1 ((q_T 4) 2).2.2.1) := by decide +kernel
theorem fl_RX6_255 : 4 < 7 ∧ 5 < q_nf 4 ∧ q_wd (Cond.fieldLink RX6 255 ((q_T 4) 5).1 ((q_T 4) 5).2.1 ((q_T 4) 5).2.2.1) := by decide +kernel
theorem fl_RX6_258 : 4 < 7 ∧ 4 < q_nf 4 ∧ q_wd (Cond.fieldLink RX6 258 ((q_T 4) 4).1 ((q_T 4) 4).2.1 ((q_T 4) 4).2.2.1) := by decide +kernel
theorem fl_RX6_261 : 4 < 7 ∧ 6 < q_nf 4 ∧ q_wd (Cond.fieldLink RX6 261 ((q_T 4) 6).1 ((q_T 4) 6).2.1 ((q_T 4) 6).2.2.1) := by decide +kernel
theorem fl_RX6_264 : 4 < 7 ∧ 3 < q_nf 4 ∧ q_wd (Cond.fieldLink RX6 264 ((q_T 4) 3).1 ((q_T 4) 3).2.1 ((q_T 4) 3).2.2.1) := by decide +kernel
theorem fl_RX7_7 : 6 < 7 ∧ 0 < q_nf 6 ∧ q_wd (Cond.fieldLink RX7 7 ((q_T 6) 0).1 ((q_T 6) 0).2.1 ((q_T 6) 0).2.2.1) := by decide +kernel
theorem fl_RX7_13 : 6 < 7 ∧ 1 < q_nf 6 ∧ q_wd (Cond.fieldLink RX7 13 ((q_T 6) 1).1 ((q_T 6) 1).2.1 ((q_T 6) 1).2.2.1) := by decide +kernel
theorem fl_RX7_16 : 6 < 7 ∧ 2 < q_nf 6 ∧ q_wd (Cond.fieldLink RX7 16 ((q_T 6) 2).1 ((q_T 6) 2).2.1 ((q_T 6) 2).2.2.1) := by decide +kernel
theorem fl_RX7_19 : 6 < 7 ∧ 4 < q_nf 6 ∧ q_wd (Cond.fieldLink RX7 19 ((q_T 6) 4).1 ((q_T 6) 4).2.1 ((q_T 6) 4).2.2.1) := by decide +kernel
theorem fl_RX7_22 : 6 < 7 ∧ 9 < q_nf 6 ∧ q_wd (Cond.fieldLink RX7 22 ((q_T 6) 9).1 ((q_T 6) 9).2.1 ((q_T 6) 9).2.2.1) := by decide +kernel
theorem fl_RX7_28 : 6 < 7 ∧ 3 < q_nf 6 ∧ q_wd (Cond.fieldLink RX7 28 ((q_T 6) 3).1 ((q_T 6) 3).2.1 ((q_T 6) 3).2.2.1) := by decide +kernel
theorem fl_RX7_182 : 6 < 7 ∧ 5 < q_nf 6 ∧ q_wd (Cond.fieldLink RX7 182 ((q_T 6) 5).1 ((q_T 6) 5).2.1 ((q_T 6) 5).2.2.1) := by decide +kernel
theorem fl_RX7_185 : 6 < 7 ∧ 11 < q_nf 6 ∧ q_wd (Cond.fieldLink RX7 185 ((q_T 6) 11).1 ((q_T 6) 11).2.1 ((q_T 6) 11).2.2.1) := by decide +kernel
theorem fl_RX7_188 : 6 < 7 ∧ 6 < q_nf 6 ∧ q_wd (Cond.fieldLink RX7 188 ((q_T 6) 6).1 ((q_T 6) 6).2.1 ((q_T 6) 6).2.2.1) := by decide +kernel
theorem fl_RX7_191 : 6 < 7 ∧ 12 < q_nf 6 ∧ q_wd (Cond.fieldLink RX7 191 ((q_T 6) 12).1 ((q_T 6) 12).2.1 ((q_T 6) 12).2.2.1) := by decide +kernel
theorem fl_RX7_194 : 6 < 7 ∧ 7 < q_nf 6 ∧ q_wd (Cond.fieldLink RX7 194 ((q_T 6) 7).1 ((q_T 6) 7).2.1 ((q_T 6) 7).2.2.1) := by decide +kernel
theorem fl_RX7_207 : 6 < 7 ∧ 10 < q_nf 6 ∧ q_wd (Cond.fieldLink RX7 207 ((q_T 6) 10).1 ((q_T 6) 10).2.1 ((q_T 6) 10).2.2.1) := by decide +kernel
theorem fl_RX7_213 : 6 < 7 ∧ 8 < q_nf 6 ∧ q_wd (Cond.fieldLink RX7 213 ((q_T 6) 8).1 ((q_T 6) 8).2.1 ((q_T 6) 8).2.2.1) := by decide +kernel
end
section
/-! constants of the pools -/
theorem ct_RX1_35 : q_wd (Cond.constant RX1 35 (-1000002)) := by decide +kernel
theorem ct_RX3_89 : q_wd (Cond.constant RX3 89 (-1000001)) := by decide +kernel
theorem ct_RX3_90 : q_wd (Cond.constant RX3 90 (-1000002)) := by decide +kernel
theorem ct_RX3_91 : q_wd (Cond.constant RX3 91 (-1000003)) := by decide +kernel
theorem ct_RJ6_265 : q_wd (Cond.constant RJ6 265 (1431655765)) := by decide +kernel
theorem ct_RJ6_266 : q_wd (Cond.constant RJ6 266 (858993459)) := by decide +kernel
theorem ct_RJ6_267 : q_wd (Cond.constant RJ6 267 (252645135)) := by decide +kernel
theorem ct_RX4_27 : q_wd (Cond.constant RX4 27 (-1000003)) := by decide +kernel
theorem ct_RX6_193 : q_wd (Cond.constant RX6 193 (-1000004)) := by decide +kernel
theorem ct_RX6_69 : q_wd (Cond.constant RX6 69 (-1000001)) := by decide +kernel
theorem ct_RX6_175 : q_wd (Cond.constant RX6 175 (-1000002)) := by decide +kernel
theorem ct_RX6_200 : q_wd (Cond.constant RX6 200 (-1000003)) := by decide +kernel
theorem ct_RX6_267 : q_wd (Cond.constantFloat RX6 267 (1258291200)) := by decide +kernel
theorem ct_RX7_109 : q_wd (Cond.constant RX7 109 (-1000001)) := by decide +kernel
theorem ct_RX7_110 : q_wd (Cond.constant RX7 110 (-1000002)) := by decide +kernel
theorem ct_RX7_111 : q_wd (Cond.constant RX7 111 (-1000003)) := by decide +kernel
theorem ct_RX7_157 : q_wd (Cond.constant RX7 157 (-1000004)) := by decide +kernel
theorem ct_RX7_170 : q_wd (Cond.constant RX7 170 (8388608)) := by decide +kernel
theorem ct_RX7_171 : q_wd (Cond.constantFloat RX7 171 (1258291200)) := by decide +kernel
theorem fj_RJ0_38 : q_wd (Cond.fieldLink RJ0 38 "java/lang/String" "COMPACT_STRINGS" "Z") := by decide +kernel
theorem fj_RJ0_15 : q_wd (Cond.fieldLink RJ0 15 "java/lang/String" "coder" "B") := by decide +kernel
theorem fj_RJ0_9 : q_wd (Cond.fieldLink RJ0 9 "java/lang/String" "value" "[B") := by decide +kernel
theorem fj_RJ0_1053 : q_wd (Cond.fieldLink RJ0 1053 "jdk/internal/util/Preconditions" "SIOOBE_FORMATTER" "Ljava/util/function/BiFunction;") := by decide +kernel
theorem fj_RX4_99 : q_wd (Cond.fieldLink RX4 99 "EveningClasses$Word" "letters" "Ljava/lang/String;") := by decide +kernel
theorem fj_RX4_118 : q_wd (Cond.fieldLink RX4 118 "EveningClasses$Word" "mostNumbers" "I") := by decide +kernel
theorem fj_RX4_132 : q_wd (Cond.fieldLink RX4 132 "EveningClasses$Word" "leastNumbers" "I") := by decide +kernel
theorem fj_RX4_52 : q_wd (Cond.fieldLink RX4 52 "EveningClasses$Word" "JOIN" "LEveningClasses$Word;") := by decide +kernel
theorem fj_RX4_68 : q_wd (Cond.fieldLink RX4 68 "EveningClasses$Word" "WISH" "LEveningClasses$Word;") := by decide +kernel
theorem fj_RX4_75 : q_wd (Cond.fieldLink RX4 75 "EveningClasses$Word" "LEAVE" "LEveningClasses$Word;") := by decide +kernel
theorem fj_RX4_81 : q_wd (Cond.fieldLink RX4 81 "EveningClasses$Word" "CLOSE" "LEveningClasses$Word;") := by decide +kernel
end
section
/-! THE X LAYER. All objects of the run stand in a fixed layout of 362 cells (numbered 0 to 361; 362 and on: what was there before). References are cell numbers; what changes is one memory of ints, cell by cell, place by place. q_X is the judgement of a method's body over it, q_M a method's contract. -/
abbrev q_Om : Type := Nat × (Nat → Nat) × va_G × (Nat → ClassId) × Nat × (Nat → Int32)
abbrev q_Mem : Type := Nat → Nat → Int32
abbrev q_A (ω : q_Om) : Nat → Prop := fun q => ω.1 ≤ q
abbrev q_ad (ω : q_Om) (k : Nat) : Nat := ω.2.1 k
abbrev q_D (ω : q_Om) : va_G := ω.2.2.1
abbrev q_ca (ω : q_Om) (k : Nat) : ClassId := ω.2.2.2.1 k
abbrev q_L (ω : q_Om) : Nat := ω.2.2.2.2.1
abbrev q_xs (ω : q_Om) : Nat → Int32 := ω.2.2.2.2.2
/-- the kinds within a season's 50 cells, and the lengths of its arrays -/
def q_sk (j : Nat) : Nat := if j = 0 then 3 else if j = 1 then 12 else if j = 2 then 13 else if j = 3 then 10 else if j < 20 then (if j % 2 = 0 then 0 else 10) else 2
def q_sl (j : Nat) : Nat := if j = 1 then 8 else if j = 2 then 30 else if j = 3 then 5 else 20
def q_kd (k : Nat) : Nat := if k = 0 then 5 else if k < 101 then q_sk ((k - 1) % 50) else if k = 101 then 1 else if k = 102 then 14 else if k < 353 then q_sk ((k - 103) % 50) else if k = 353 then 4 else if k = 354 then 11 else if k = 355 then 10 else if k = 356 then 6 else if k < 362 then 10 else 99
def q_ln (k : Nat) : Nat := if k < 101 then q_sl ((k - 1) % 50) else if k = 102 then 5 else if k < 353 then q_sl ((k - 103) % 50) else if k = 354 then 60 else if k = 355 then 4 else if k = 357 then 554 else if k = 358 then 554 else if k = 359 then 2216 else if k = 360 then 60 else 4
/-- the fields that hold references, and how far away what they hold lies -/
def q_ro (c j : Nat) : Option Nat := match c, j with
  | 0, 1 => some 1
  | 1, 0 => some 1
  | 3, 0 => some 1
  | 3, 1 => some 2
  | 3, 2 => some 3
  | 4, 0 => some 1
  | 4, 1 => some 2
  | 5, 0 => some 1
  | 5, 1 => some 51
  | 5, 2 => some 101
  | 5, 3 => some 353
  | 6, 0 => some 1
  | 6, 1 => some 2
  | 6, 2 => some 3
  | 6, 4 => some 4
  | 6, 9 => some 5
  | _, _ => none
/-- the elements of an array of references -/
def q_el (c k i : Nat) : Nat := if c = 12 then k + 3 + 2 * i else if c = 13 then k + 18 + i else k + 1 + 50 * i
def q_fv (ω : q_Om) (I : q_Mem) (k j : Nat) : Value := match q_ro (q_kd k) j with
  | some d => .ref (q_ad ω (k + d))
  | none => .int (I k j)
def q_cell (ω : q_Om) (I : q_Mem) (k : Nat) : va_E := if q_kd k < 7 then .inr (q_kd k, (List.range (q_nf (q_kd k))).map (q_fv ω I k)) else if q_kd k < 12 then .inl (q_ca ω (q_kd k), q_ln k, .inl (I k)) else .inl (q_ca ω (q_kd k), q_ln k, .inr (.inr (.inr (.inr (fun i => some (q_ad ω (q_el (q_kd k) k i)))))))
def q_P (ω : q_Om) (I : q_Mem) : va_W := (List.range 362).map (fun k => (q_ad ω k, q_cell ω I k))
def q_tys (ω : q_Om) : List (ClassId × FieldType) := [(q_ca ω 10, .int), (q_ca ω 11, .char), (q_ca ω 12, .object RX0), (q_ca ω 13, .object RX2), (q_ca ω 14, .object RX3)]
def q_up (I : q_Mem) (a j : Nat) (x : Int32) : q_Mem := fun a' j' => if a' = a ∧ j' = j then x else I a' j'
theorem q_P_get {ω : q_Om} {I : q_Mem} {k : Nat} (h : k < 362) : (q_P ω I)[k]? = some (q_ad ω k, q_cell ω I k) := by
  simp only [q_P, List.getElem?_map, List.getElem?_range h, Option.map_some]
theorem q_cell_obj {ω : q_Om} {I : q_Mem} {k ci : Nat} (h : q_kd k = ci) (h7 : ci < 7) : q_cell ω I k = .inr (ci, (List.range (q_nf ci)).map (q_fv ω I k)) := by
  subst h
  simp only [q_cell, if_pos h7]
theorem q_cell_arr {ω : q_Om} {I : q_Mem} {k ci : Nat} (h : q_kd k = ci) (h7 : 7 ≤ ci) (h12 : ci < 12) : q_cell ω I k = .inl (q_ca ω ci, q_ln k, .inl (I k)) := by
  subst h
  simp only [q_cell, if_neg (Nat.not_lt.mpr h7), if_pos h12]
theorem q_cell_ref {ω : q_Om} {I : q_Mem} {k ci : Nat} (h : q_kd k = ci) (h12 : 12 ≤ ci) : q_cell ω I k = .inl (q_ca ω ci, q_ln k, .inr (.inr (.inr (.inr (fun i => some (q_ad ω (q_el ci k i))))))) := by
  subst h
  simp only [q_cell, if_neg (show ¬ q_kd k < 7 by omega), if_neg (Nat.not_lt.mpr h12)]
theorem q_cell_ne {ω : q_Om} {I : q_Mem} {a k j : Nat} {x : Int32} (h : k ≠ a) : q_cell ω (q_up I a j x) k = q_cell ω I k := by
  have e : q_up I a j x k = I k := by
    funext j'
    simp only [q_up, h, false_and, if_false]
  have e2 : q_fv ω (q_up I a j x) k = q_fv ω I k := by
    funext j'
    simp only [q_fv, e]
  simp only [q_cell, e, e2]
theorem q_P_set {ω : q_Om} {I : q_Mem} {a j : Nat} {x : Int32} {c : va_E} (h : q_cell ω (q_up I a j x) a = c) : (q_P ω I).set a (q_ad ω a, c) = q_P ω (q_up I a j x) := by
  apply List.ext_getElem?
  intro i
  subst h
  rw [List.getElem?_set]
  by_cases hi : a = i
  · subst hi
    rw [if_pos rfl]
    by_cases hl : a < 362
    · rw [q_P_get hl, if_pos (by simpa [q_P] using hl)]
    · rw [if_neg (by simpa [q_P] using hl)]
      symm
      simp only [q_P, List.getElem?_map, Option.map_eq_none_iff, List.getElem?_eq_none_iff, List.length_range]
      omega
  · rw [if_neg hi]
    simp only [q_P, List.getElem?_map]
    by_cases hl : i < 362
    · rw [List.getElem?_range hl]
      simp only [Option.map_some]
      rw [q_cell_ne (fun e => hi e.symm)]
    · rw [List.getElem?_eq_none (by simp; omega)]
      rfl
theorem q_setI {ω : q_Om} {I : q_Mem} {a j ci : Nat} {x : Int32} (h : q_kd a = ci) (h7 : ci < 7) (hj : q_ro ci j = none) : (q_P ω I).set a (q_ad ω a, .inr (ci, ((List.range (q_nf ci)).map (q_fv ω I a)).set j (.int x))) = q_P ω (q_up I a j x) := by
  refine q_P_set ?_
  rw [q_cell_obj h h7]
  refine congrArg (fun l => Sum.inr (ci, l)) ?_
  apply List.ext_getElem?
  intro i
  rw [List.getElem?_set, List.getElem?_map, List.getElem?_map]
  by_cases hi : j = i
  · subst hi
    rw [if_pos rfl]
    by_cases hl : j < q_nf ci
    · rw [List.getElem?_range hl, if_pos (by simpa using hl)]
      simp [q_fv, h, hj, q_up]
    · rw [List.getElem?_eq_none (by simp; omega), if_neg (by simpa using hl)]
      rfl
  · rw [if_neg hi]
    by_cases hl : i < q_nf ci
    · rw [List.getElem?_range hl]
      simp only [Option.map_some]
      have : q_up I a j x a i = I a i := by simp [q_up]; exact fun e => absurd e.symm hi
      simp only [q_fv, this]
    · rw [List.getElem?_eq_none (by simp; omega)]
      rfl
theorem q_setA {ω : q_Om} {I : q_Mem} {a j ci : Nat} {x : Int32} (h : q_kd a = ci) (h7 : 7 ≤ ci) (h12 : ci < 12) : (q_P ω I).set a (q_ad ω a, .inl (q_ca ω ci, q_ln a, .inl (upd (I a) j x))) = q_P ω (q_up I a j x) := by
  refine q_P_set ?_
  rw [q_cell_arr h h7 h12]
  have : q_up I a j x a = upd (I a) j x := by
    funext i
    simp [q_up, upd]
  rw [this]
/-- what was there before the run: the enum's constants (363 to 367), their array (362), their texts (368 to 372) and those texts' bytes (373 to 377), the script (380) -/
def q_lens : List Nat := [4, 4, 5, 5, 4]
def q_byts : List (List Int32) := [[106, 111, 105, 110], [119, 105, 115, 104], [108, 101, 97, 118, 101], [99, 108, 111, 115, 101], [116, 101, 114, 109]]
def q_EF : List (String × String × String × List Int32) := [("EveningClasses$Word", "leastNumbers", "I", [1, 2, 1, 0, 0]), ("EveningClasses$Word", "mostNumbers", "I", [3, 4, 1, 0, 0])]
def q_EN : List String := ["JOIN", "WISH", "LEAVE", "CLOSE", "TERM"]
/-- a private method of the outer one that nested ones call -/
def q_Nt (U : State) : Prop := va_Nw (.methodLinkNest RX3 85 yX6_isOutside RX6) U ∧ va_Nw (.methodLinkNest RX4 23 yX6_isOutside RX6) U ∧ va_Nw (.fieldLinkNest RX4 95 "EveningClasses" "WORDS" "[LEveningClasses$Word;" RX6) U
theorem q_Nt.warm {s U : State} (hW : s.WarmedH U.vm) (h : q_Nt s) : q_Nt U := ⟨va_Nw.warmM hW h.1, va_Nw.warmM hW h.2.1, va_Nw.warmF hW h.2.2⟩
theorem q_Nt.same {s U : State} (hv : s.vm = U.vm) (h : q_Nt s) : q_Nt U := ⟨va_Nw.same rfl hv h.1, va_Nw.same rfl hv h.2.1, va_Nw.same rfl hv h.2.2⟩
def q_Od (ω : q_Om) (U : State) (H : Heap) : Prop :=
  va_Z "EveningClasses" "WORDS" "[LEveningClasses$Word;" (.ref (q_ad ω 362)) (q_A ω) U H ∧
  va_T (.object "EveningClasses$Word") (q_ad ω 362) 5 (fun j => .ref (q_ad ω (363 + j))) (q_A ω) U H ∧
  va_En "EveningClasses$Word" "LEveningClasses$Word;" q_EN q_EF (fun i => q_ad ω (363 + i)) (q_A ω) U H ∧
  va_Ef 5 "EveningClasses$Word" "letters" "Ljava/lang/String;" (fun i => .ref (q_ad ω (368 + i))) (fun i => q_ad ω (363 + i)) (q_A ω) U H ∧
  vk_S 5 q_lens q_byts (fun i => q_ad ω (368 + i)) (fun i => q_ad ω (373 + i)) (q_A ω) U H ∧
  va_Z "java/lang/String" "COMPACT_STRINGS" "Z" (.int 1) (q_A ω) U H ∧
  (va_Z "jdk/internal/util/Preconditions" "SIOOBE_FORMATTER" "Ljava/util/function/BiFunction;" .null (q_A ω) U H ∨ va_Z "jdk/internal/util/Preconditions" "SIOOBE_FORMATTER" "Ljava/util/function/BiFunction;" (.ref (q_ad ω 381)) (q_A ω) U H) ∧
  (va_X (q_ad ω 380) (q_L ω) (q_xs ω) U H ∧ q_ad ω 380 < H.size ∧ ¬ q_A ω (q_ad ω 380)) ∧ q_Nt U
theorem q_Od.moved {ω : q_Om} {u U : State} {H : Heap} (hvm : u.vm.Alike U.vm) (hN : q_Nt U) (h : q_Od ω u H) : q_Od ω U H := by
  obtain ⟨h1, h2, h3, h4, h5, h6, h7, ⟨h8, h9⟩, -⟩ := h
  exact ⟨va_Z.moved hvm h1, va_T.moved hvm h2, va_En.moved hvm h3, va_Ef.moved hvm h4, vk_S.moved hvm h5, va_Z.moved hvm h6, h7.imp (va_Z.moved hvm) (va_Z.moved hvm), ⟨va_X.moved hvm h8, h9⟩, hN⟩
theorem q_Od.kept {ω : q_Om} {U : State} {H H1 : Heap} (h : q_Od ω U H) (hz : H.size ≤ H1.size) (hq : ∀ a : Nat, a < H.size → ¬ q_A ω a → H1[a]? = H[a]?) : q_Od ω U H1 := by
  obtain ⟨h1, h2, h3, h4, h5, h6, h7, ⟨h8, h9, h10⟩, h11⟩ := h
  exact ⟨h1.kept hq, h2.kept hq, h3.kept hq, h4.kept hq, h5.kept hq, h6.kept hq, h7.imp (fun h => h.kept hq) (fun h => h.kept hq), ⟨h8.kept (hq _ h9 h10), Nat.lt_of_lt_of_le h9 hz, h10⟩, h11⟩
/-! values and locals -/
def q_cv (ω : q_Om) : Value → Value
  | .ref k => .ref (q_ad ω k)
  | v => v
theorem q_cv_cat (ω : q_Om) (v : Value) : (q_cv ω v).category = v.category := by
  cases v <;> rfl
def q_LH (ω : q_Om) (LS : Array Slot) (ls : List (Option Value)) : Prop := LS.size = ls.length ∧ lv_wf LS ∧ ∀ (i : Nat) (v : Value), ls[i]? = some (some v) → v.category = 1 ∧ LS[i]? = some (.val (q_cv ω v))
def q_lp (ω : q_Om) (ls : List (Option Value)) : List (Nat × Value) := (List.range ls.length).filterMap (fun i => (ls[i]?.join).map (fun v => (i, q_cv ω v)))
theorem q_LH.has {ω : q_Om} {LS : Array Slot} {ls : List (Option Value)} (h : q_LH ω LS ls) : lv_has LS ls.length (q_lp ω ls) := by
  refine ⟨h.1, h.2.1, fun q hq => ?_⟩
  obtain ⟨i, -, hi⟩ := List.mem_filterMap.mp hq
  cases hv : ls[i]? with
  | none => rw [hv] at hi; cases hi
  | some o =>
    cases o with
    | none => rw [hv] at hi; cases hi
    | some v =>
      rw [hv] at hi
      cases hi
      exact (h.2.2 i v hv).2
theorem q_LH.store {ω : q_Om} {LS LS' : Array Slot} {ls : List (Option Value)} {i : Nat} {v : Value} (h : q_LH ω LS ls) (hc : v.category = 1) (hi : i < ls.length)
    (h' : lv_has LS' ls.length ((i, q_cv ω v) :: (q_lp ω ls).filter (fun q => !(q.1 == i) && !(q.1 + 1 == i && q.2.category == 2)))) : q_LH ω LS' (ls.set i (some v)) := by
  refine ⟨by rw [List.length_set]; exact h'.1, h'.2.1, fun j w hj => ?_⟩
  rw [List.getElem?_set] at hj
  by_cases hij : i = j
  · subst hij
    rw [if_pos rfl, if_pos hi] at hj
    cases hj
    exact ⟨hc, h'.2.2 (i, q_cv ω v) List.mem_cons_self⟩
  · rw [if_neg hij] at hj
    have hw := (h.2.2 j w hj).1
    refine ⟨hw, h'.2.2 (j, q_cv ω w) (List.mem_cons_of_mem _ (List.mem_filter.mpr ⟨List.mem_filterMap.mpr ⟨j, List.mem_range.mpr ?_, by rw [hj]; rfl⟩, ?_⟩))⟩
    · rcases Nat.lt_or_ge j ls.length with q | q
      · exact q
      · rw [List.getElem?_eq_none q] at hj; cases hj
    · have e1 : (j == i) = false := by simp; exact fun e => hij e.symm
      have e2 : ((q_cv ω w).category == 2) = false := by rw [q_cv_cat, hw]; rfl
      simp [e1, e2]
/-! the judgements -/
def q_gw : List Cond := lw_tbl.filter goodWord
theorem q_in {w : Cond} (h : w ∈ lw_tbl) (hg : goodWord w = true) : w ∈ q_gw := List.mem_filter.mpr ⟨h, hg⟩
theorem q_good : GoodIn lw_tbl q_gw := fun w hw => ⟨(List.mem_filter.mp hw).1, good_of_word (List.mem_filter.mp hw).2⟩
theorem q_good2 : GoodIn q_gw q_gw := fun w hw => ⟨hw, good_of_word (List.mem_filter.mp hw).2⟩
abbrev q_ws (k : q_MI) : List Cond := Cond.code k.1 k.2.1 k.2.2.1 k.2.2.2.1 :: q_gw
abbrev q_rm (k : q_MI) : Room := { frames := k.2.2.2.2.1, cells := 0, slots := 0, locals := k.2.2.2.2.2 }
def q_Pc (ω : q_Om) (as : List Value) (I : q_Mem) : Array Value → State → Prop := fun v U => v = (as.map (q_cv ω)).toArray ∧ va_P (q_D ω) vwCl (q_P ω I) U.heap ∧ va_K (q_D ω) vwCl (q_tys ω) U ∧ va_D (q_A ω) (q_P ω I) ∧ q_Od ω U U.heap
def q_Qc (ω : q_Om) (Q : Option Value → q_Mem → Prop) : Array Value → State → Outcome → State → Prop := fun _ st o t => (∃ (v : Option Value) (J : q_Mem), o = .returned (v.map (q_cv ω)) ∧ Q v J ∧ va_P (q_D ω) vwCl (q_P ω J) t.heap) ∧ va_F (q_A ω) st t
def q_M (k : q_MI) (as : List Value) (I : q_Mem) (Q : Option Value → q_Mem → Prop) : Prop := ∀ (ω : q_Om) (l : Launch), Met l k.1 (q_ws k) (q_rm k) (q_Pc ω as I) (q_Qc ω Q) 0 0 (q_A ω)
def q_Rt (cc : ByteArray) (ret : Option FieldType) (pc : Nat) (v : Option Value) : Prop :=
  (v = none ∧ ret = none ∧ decode cc pc = .ok (.return_, 1)) ∨ (∃ (x : Int32) (ty : FieldType), v = some (.int x) ∧ ret = some ty ∧ narrow ty (.int x) = .int x ∧ decode cc pc = .ok (.ireturn, 1)) ∨ (∃ n : String, ret = some (.object n) ∧ (v = some .null ∨ ∃ a : Nat, v = some (.ref a)) ∧ decode cc pc = .ok (.areturn, 1))
abbrev q_Cx (ω : q_Om) (k : q_MI) (nL : Nat) (p : Program) (R : Room) (s : State) (m : MethodId) (args : Array Value) (c : Code) (cells slots : Nat) : Prop :=
  p.tables.exec = Jvm.exec ∧ c.code = k.2.1 ∧ c.maxLocals = nL ∧ s.vm.findClass k.1.cls = some m.cls ∧ (∀ w ∈ q_gw, w.before args s = true) ∧ va_K (q_D ω) vwCl (q_tys ω) s ∧ va_D (q_A ω) (q_P ω (fun _ _ => 0)) ∧ q_Od ω s s.heap ∧ k.2.2.2.2.1 ≤ R.frames ∧ k.2.2.2.2.2 ≤ R.locals ∧ cells ≤ R.cells ∧ slots ≤ R.slots
def q_X (k : q_MI) (pc : Nat) (ls : List (Option Value)) (st : List Value) (I : q_Mem) (Q : Option Value → q_Mem → Prop) : Prop :=
  ∀ (ω : q_Om) (p : Program) (l : Launch) (e : Env) (R : Room) (s : State) (m : MethodId) (args : Array Value) (below : List Frame) (meth : Method) (c : Code) (cells slots : Nat) (QZ : State → Prop), q_Cx ω k ls.length p R s m args c cells slots →
    (∀ (pc' : Nat) (LS' : Array Slot) (H' : Heap) (locs' : List Loc) (v : Option Value) (J : q_Mem), q_Rt k.2.1 k.2.2.2.1 pc' v → Q v J → va_P (q_D ω) vwCl (q_P ω J) H' → va_S (q_A ω) s.heap H' locs' → W p l e R s m args below meth c H' locs' cells slots QZ (F0 m pc' LS' (v.toList.map (q_cv ω)))) →
    ∀ (H : Heap) (locs : List Loc) (LS : Array Slot), q_LH ω LS ls → va_P (q_D ω) vwCl (q_P ω I) H → va_S (q_A ω) s.heap H locs → W p l e R s m args below meth c H locs cells slots QZ (F0 m pc LS (st.map (q_cv ω)))
theorem q_vD {ω : q_Om} {I J : q_Mem} (h : va_D (q_A ω) (q_P ω I)) : va_D (q_A ω) (q_P ω J) := by
  have hx : ∀ (k : Nat) (q : Nat × va_E), (q_P ω J)[k]? = some q → ∃ q', (q_P ω I)[k]? = some q' ∧ q'.1 = q.1 := by
    intro k q hq
    have hk : k < 362 := by
      rcases Nat.lt_or_ge k 362 with z | z
      · exact z
      · rw [List.getElem?_eq_none (by simp [q_P]; omega)] at hq; cases hq
    rw [q_P_get hk] at hq
    cases hq
    exact ⟨_, q_P_get hk, rfl⟩
  refine ⟨fun i j p q hi hj e => ?_, fun k q hq => ?_⟩
  · obtain ⟨p', hp', e1⟩ := hx i p hi
    obtain ⟨q', hq', e2⟩ := hx j q hj
    exact h.1 i j p' q' hp' hq' (e1.trans (e.trans e2.symm))
  · obtain ⟨q', hq', e1⟩ := hx k q hq
    rw [← e1]
    exact h.2 k q' hq'
end
section
/-! THE X LAYER's rules, an instruction each -/
section q_rules
variable {k : q_MI} {pc : Nat} {ls : List (Option Value)} {st : List Value} {I : q_Mem} {Q : Option Value → q_Mem → Prop}
theorem q_iconst {n : Int} {v : Int32} (hd : decode k.2.1 pc = .ok (.iconst n, 1)) (hv : Int32.ofInt n = v) (kk : q_X k (pc + 1) ls (.int v :: st) I Q) : q_X k pc ls st I Q := by
  intro ω p l e R s m args below meth c cells slots QZ hC hR H locs LS hL hP hS
  exact lv_iconst hC.1 hC.2.1 hd hv (kk ω p l e R s m args below meth c cells slots QZ hC hR H locs LS hL hP hS)
theorem q_bipush {n : Int} {v : Int32} (hd : decode k.2.1 pc = .ok (.bipush n, 2)) (hv : (Int8.ofInt n).toInt32 = v) (kk : q_X k (pc + 2) ls (.int v :: st) I Q) : q_X k pc ls st I Q := by
  intro ω p l e R s m args below meth c cells slots QZ hC hR H locs LS hL hP hS
  exact lv_bipush hC.1 hC.2.1 hd hv (kk ω p l e R s m args below meth c cells slots QZ hC hR H locs LS hL hP hS)
theorem q_sipush {n : Int} {v : Int32} (hd : decode k.2.1 pc = .ok (.sipush n, 3)) (hv : (Int16.ofInt n).toInt32 = v) (kk : q_X k (pc + 3) ls (.int v :: st) I Q) : q_X k pc ls st I Q := by
  intro ω p l e R s m args below meth c cells slots QZ hC hR H locs LS hL hP hS
  exact lv_sipush hC.1 hC.2.1 hd hv (kk ω p l e R s m args below meth c cells slots QZ hC hR H locs LS hL hP hS)
theorem q_ldc {index : Nat} {v : Int32} (hc : q_wd (Jvm.Cond.constant k.1.cls index v)) (hd : decode k.2.1 pc = .ok (.ldc index, 2)) (kk : q_X k (pc + 2) ls (.int v :: st) I Q) : q_X k pc ls st I Q := by
  intro ω p l e R s m args below meth c cells slots QZ hC hR H locs LS hL hP hS
  exact lv_ldc hC.1 hC.2.1 hC.2.2.2.1 (hC.2.2.2.2.1 _ (q_in hc.1 hc.2)) hd (kk ω p l e R s m args below meth c cells slots QZ hC hR H locs LS hL hP hS)
theorem q_ldcw {index : Nat} {v : Int32} (hc : q_wd (Jvm.Cond.constant k.1.cls index v)) (hd : decode k.2.1 pc = .ok (.ldc_w index, 3)) (kk : q_X k (pc + 3) ls (.int v :: st) I Q) : q_X k pc ls st I Q := by
  intro ω p l e R s m args below meth c cells slots QZ hC hR H locs LS hL hP hS
  exact lv_ldcw hC.1 hC.2.1 hC.2.2.2.1 (hC.2.2.2.2.1 _ (q_in hc.1 hc.2)) hd (kk ω p l e R s m args below meth c cells slots QZ hC hR H locs LS hL hP hS)
theorem q_ldcf {index : Nat} {v : UInt32} (hc : q_wd (Jvm.Cond.constantFloat k.1.cls index v)) (hd : decode k.2.1 pc = .ok (.ldc index, 2)) (kk : q_X k (pc + 2) ls (.float v :: st) I Q) : q_X k pc ls st I Q := by
  intro ω p l e R s m args below meth c cells slots QZ hC hR H locs LS hL hP hS
  exact lv_ldcf hC.1 hC.2.1 hC.2.2.2.1 (hC.2.2.2.2.1 _ (q_in hc.1 hc.2)) hd (kk ω p l e R s m args below meth c cells slots QZ hC hR H locs LS hL hP hS)
theorem q_iload_n {j : Fin 4} {x : Int32} (hd : decode k.2.1 pc = .ok (.iload_n j, 1)) (hl : ls[(j : Nat)]? = some (some (.int x))) (kk : q_X k (pc + 1) ls (.int x :: st) I Q) : q_X k pc ls st I Q := by
  intro ω p l e R s m args below meth c cells slots QZ hC hR H locs LS hL hP hS
  exact lv_iload_n hC.1 hC.2.1 hd rfl (hL.2.2 _ _ hl).2 (kk ω p l e R s m args below meth c cells slots QZ hC hR H locs LS hL hP hS)
theorem q_iload {i : Nat} {x : Int32} (hd : decode k.2.1 pc = .ok (.iload i, 2)) (hl : ls[i]? = some (some (.int x))) (kk : q_X k (pc + 2) ls (.int x :: st) I Q) : q_X k pc ls st I Q := by
  intro ω p l e R s m args below meth c cells slots QZ hC hR H locs LS hL hP hS
  exact lv_iload hC.1 hC.2.1 hd (hL.2.2 _ _ hl).2 (kk ω p l e R s m args below meth c cells slots QZ hC hR H locs LS hL hP hS)
theorem q_fload_n {j : Fin 4} {x : UInt32} (hd : decode k.2.1 pc = .ok (.fload_n j, 1)) (hl : ls[(j : Nat)]? = some (some (.float x))) (kk : q_X k (pc + 1) ls (.float x :: st) I Q) : q_X k pc ls st I Q := by
  intro ω p l e R s m args below meth c cells slots QZ hC hR H locs LS hL hP hS
  exact lv_fload_n hC.1 hC.2.1 hd rfl (hL.2.2 _ _ hl).2 (kk ω p l e R s m args below meth c cells slots QZ hC hR H locs LS hL hP hS)
theorem q_aload_n {j : Fin 4} {a : Nat} (hd : decode k.2.1 pc = .ok (.aload_n j, 1)) (hl : ls[(j : Nat)]? = some (some (.ref a))) (kk : q_X k (pc + 1) ls (.ref a :: st) I Q) : q_X k pc ls st I Q := by
  intro ω p l e R s m args below meth c cells slots QZ hC hR H locs LS hL hP hS
  exact lv_aload_n hC.1 hC.2.1 hd rfl (hL.2.2 _ _ hl).2 (kk ω p l e R s m args below meth c cells slots QZ hC hR H locs LS hL hP hS)
theorem q_aload_nN {j : Fin 4} (hd : decode k.2.1 pc = .ok (.aload_n j, 1)) (hl : ls[(j : Nat)]? = some (some .null)) (kk : q_X k (pc + 1) ls (.null :: st) I Q) : q_X k pc ls st I Q := by
  intro ω p l e R s m args below meth c cells slots QZ hC hR H locs LS hL hP hS
  exact lv_aload_nN hC.1 hC.2.1 hd rfl (hL.2.2 _ _ hl).2 (kk ω p l e R s m args below meth c cells slots QZ hC hR H locs LS hL hP hS)
theorem q_aload {i : Nat} {a : Nat} (hd : decode k.2.1 pc = .ok (.aload i, 2)) (hl : ls[i]? = some (some (.ref a))) (kk : q_X k (pc + 2) ls (.ref a :: st) I Q) : q_X k pc ls st I Q := by
  intro ω p l e R s m args below meth c cells slots QZ hC hR H locs LS hL hP hS
  exact lv_aload hC.1 hC.2.1 hd (hL.2.2 _ _ hl).2 (kk ω p l e R s m args below meth c cells slots QZ hC hR H locs LS hL hP hS)
theorem q_aloadN {i : Nat} (hd : decode k.2.1 pc = .ok (.aload i, 2)) (hl : ls[i]? = some (some .null)) (kk : q_X k (pc + 2) ls (.null :: st) I Q) : q_X k pc ls st I Q := by
  intro ω p l e R s m args below meth c cells slots QZ hC hR H locs LS hL hP hS
  exact lv_aloadN hC.1 hC.2.1 hd (hL.2.2 _ _ hl).2 (kk ω p l e R s m args below meth c cells slots QZ hC hR H locs LS hL hP hS)
theorem q_Cx.len {ω : q_Om} {n n' : Nat} {p : Program} {R : Room} {s : State} {m : MethodId} {args : Array Value} {c : Code} {cells slots : Nat} (h : n = n') (hC : q_Cx ω k n p R s m args c cells slots) : q_Cx ω k n' p R s m args c cells slots := h ▸ hC
theorem q_istore_n {j : Fin 4} {x : Int32} {ls' : List (Option Value)} (hd : decode k.2.1 pc = .ok (.istore_n j, 1)) (hi : (j : Nat) < ls.length) (hl : ls.set (j : Nat) (some (.int x)) = ls') (kk : q_X k (pc + 1) ls' st I Q) : q_X k pc ls (.int x :: st) I Q := by
  intro ω p l e R s m args below meth c cells slots QZ hC hR H locs LS hL hP hS
  subst hl
  exact lv_istore_n hC.1 hC.2.1 hd rfl hL.has hi rfl (fun LS' h' => kk ω p l e R s m args below meth c cells slots QZ (hC.len (by rw [List.length_set])) hR H locs LS' (hL.store rfl hi h') hP hS)
theorem q_istore {i : Nat} {x : Int32} {ls' : List (Option Value)} (hd : decode k.2.1 pc = .ok (.istore i, 2)) (hi : i < ls.length) (hl : ls.set i (some (.int x)) = ls') (kk : q_X k (pc + 2) ls' st I Q) : q_X k pc ls (.int x :: st) I Q := by
  intro ω p l e R s m args below meth c cells slots QZ hC hR H locs LS hL hP hS
  subst hl
  exact lv_istore hC.1 hC.2.1 hd hL.has hi rfl (fun LS' h' => kk ω p l e R s m args below meth c cells slots QZ (hC.len (by rw [List.length_set])) hR H locs LS' (hL.store rfl hi h') hP hS)
theorem q_fstore_n {j : Fin 4} {x : UInt32} {ls' : List (Option Value)} (hd : decode k.2.1 pc = .ok (.fstore_n j, 1)) (hi : (j : Nat) < ls.length) (hl : ls.set (j : Nat) (some (.float x)) = ls') (kk : q_X k (pc + 1) ls' st I Q) : q_X k pc ls (.float x :: st) I Q := by
  intro ω p l e R s m args below meth c cells slots QZ hC hR H locs LS hL hP hS
  subst hl
  exact lv_fstore_n hC.1 hC.2.1 hd rfl hL.has hi rfl (fun LS' h' => kk ω p l e R s m args below meth c cells slots QZ (hC.len (by rw [List.length_set])) hR H locs LS' (hL.store rfl hi h') hP hS)
theorem q_astore_n {j : Fin 4} {a : Nat} {ls' : List (Option Value)} (hd : decode k.2.1 pc = .ok (.astore_n j, 1)) (hi : (j : Nat) < ls.length) (hl : ls.set (j : Nat) (some (.ref a)) = ls') (kk : q_X k (pc + 1) ls' st I Q) : q_X k pc ls (.ref a :: st) I Q := by
  intro ω p l e R s m args below meth c cells slots QZ hC hR H locs LS hL hP hS
  subst hl
  exact lv_astore_n hC.1 hC.2.1 hd rfl hL.has hi rfl (fun LS' h' => kk ω p l e R s m args below meth c cells slots QZ (hC.len (by rw [List.length_set])) hR H locs LS' (hL.store rfl hi h') hP hS)
theorem q_astore_nN {j : Fin 4} {ls' : List (Option Value)} (hd : decode k.2.1 pc = .ok (.astore_n j, 1)) (hi : (j : Nat) < ls.length) (hl : ls.set (j : Nat) (some .null) = ls') (kk : q_X k (pc + 1) ls' st I Q) : q_X k pc ls (.null :: st) I Q := by
  intro ω p l e R s m args below meth c cells slots QZ hC hR H locs LS hL hP hS
  subst hl
  exact lv_astore_nN hC.1 hC.2.1 hd rfl hL.has hi rfl (fun LS' h' => kk ω p l e R s m args below meth c cells slots QZ (hC.len (by rw [List.length_set])) hR H locs LS' (hL.store rfl hi h') hP hS)
theorem q_astore {i : Nat} {a : Nat} {ls' : List (Option Value)} (hd : decode k.2.1 pc = .ok (.astore i, 2)) (hi : i < ls.length) (hl : ls.set i (some (.ref a)) = ls') (kk : q_X k (pc + 2) ls' st I Q) : q_X k pc ls (.ref a :: st) I Q := by
  intro ω p l e R s m args below meth c cells slots QZ hC hR H locs LS hL hP hS
  subst hl
  exact lv_astore hC.1 hC.2.1 hd hL.has hi rfl (fun LS' h' => kk ω p l e R s m args below meth c cells slots QZ (hC.len (by rw [List.length_set])) hR H locs LS' (hL.store rfl hi h') hP hS)
theorem q_astoreN {i : Nat} {ls' : List (Option Value)} (hd : decode k.2.1 pc = .ok (.astore i, 2)) (hi : i < ls.length) (hl : ls.set i (some .null) = ls') (kk : q_X k (pc + 2) ls' st I Q) : q_X k pc ls (.null :: st) I Q := by
  intro ω p l e R s m args below meth c cells slots QZ hC hR H locs LS hL hP hS
  subst hl
  exact lv_astoreN hC.1 hC.2.1 hd hL.has hi rfl (fun LS' h' => kk ω p l e R s m args below meth c cells slots QZ (hC.len (by rw [List.length_set])) hR H locs LS' (hL.store rfl hi h') hP hS)
theorem q_iinc {i : Nat} {n : Int} {x v : Int32} {ls' : List (Option Value)} (hd : decode k.2.1 pc = .ok (.iinc i n, 3)) (hx : ls[i]? = some (some (.int x))) (hv : x + Int32.ofInt n = v) (hl : ls.set i (some (.int v)) = ls') (kk : q_X k (pc + 3) ls' st I Q) : q_X k pc ls st I Q := by
  intro ω p l e R s m args below meth c cells slots QZ hC hR H locs LS hL hP hS
  subst hl
  have hi : i < ls.length := by
    rcases Nat.lt_or_ge i ls.length with q | q
    · exact q
    · rw [List.getElem?_eq_none q] at hx; cases hx
  have hm : (i, q_cv ω (.int x)) ∈ q_lp ω ls := List.mem_filterMap.mpr ⟨i, List.mem_range.mpr hi, by rw [hx]; rfl⟩
  obtain ⟨kx, hk⟩ := List.getElem?_of_mem hm
  exact lv_iinc hC.1 hC.2.1 hd hL.has hk hv hi rfl (fun LS' h' => kk ω p l e R s m args below meth c cells slots QZ (hC.len (by rw [List.length_set])) hR H locs LS' (hL.store rfl hi h') hP hS)
end q_rules
end
section
/-! THE X LAYER: arithmetic and branches -/
section q_rules2
variable {k : q_MI} {pc : Nat} {ls : List (Option Value)} {st : List Value} {I : q_Mem} {Q : Option Value → q_Mem → Prop}
theorem q_iadd {x y : Int32} (hd : decode k.2.1 pc = .ok (.iadd, 1)) (kk : q_X k (pc + 1) ls (.int (x + y) :: st) I Q) : q_X k pc ls (.int y :: .int x :: st) I Q := by
  intro ω p l e R s m args below meth c cells slots QZ hC hR H locs LS hL hP hS
  exact lv_iadd hC.1 hC.2.1 hd (kk ω p l e R s m args below meth c cells slots QZ hC hR H locs LS hL hP hS)
theorem q_isub {x y : Int32} (hd : decode k.2.1 pc = .ok (.isub, 1)) (kk : q_X k (pc + 1) ls (.int (x - y) :: st) I Q) : q_X k pc ls (.int y :: .int x :: st) I Q := by
  intro ω p l e R s m args below meth c cells slots QZ hC hR H locs LS hL hP hS
  exact lv_isub hC.1 hC.2.1 hd (kk ω p l e R s m args below meth c cells slots QZ hC hR H locs LS hL hP hS)
theorem q_imul {x y : Int32} (hd : decode k.2.1 pc = .ok (.imul, 1)) (kk : q_X k (pc + 1) ls (.int (x * y) :: st) I Q) : q_X k pc ls (.int y :: .int x :: st) I Q := by
  intro ω p l e R s m args below meth c cells slots QZ hC hR H locs LS hL hP hS
  exact lv_imul hC.1 hC.2.1 hd (kk ω p l e R s m args below meth c cells slots QZ hC hR H locs LS hL hP hS)
theorem q_iand {x y : Int32} (hd : decode k.2.1 pc = .ok (.iand, 1)) (kk : q_X k (pc + 1) ls (.int (x &&& y) :: st) I Q) : q_X k pc ls (.int y :: .int x :: st) I Q := by
  intro ω p l e R s m args below meth c cells slots QZ hC hR H locs LS hL hP hS
  exact lv_iand hC.1 hC.2.1 hd (kk ω p l e R s m args below meth c cells slots QZ hC hR H locs LS hL hP hS)
theorem q_ior {x y : Int32} (hd : decode k.2.1 pc = .ok (.ior, 1)) (kk : q_X k (pc + 1) ls (.int (x ||| y) :: st) I Q) : q_X k pc ls (.int y :: .int x :: st) I Q := by
  intro ω p l e R s m args below meth c cells slots QZ hC hR H locs LS hL hP hS
  exact lv_ior hC.1 hC.2.1 hd (kk ω p l e R s m args below meth c cells slots QZ hC hR H locs LS hL hP hS)
theorem q_ishl {x y : Int32} (hd : decode k.2.1 pc = .ok (.ishl, 1)) (kk : q_X k (pc + 1) ls (.int (x <<< (y &&& 31)) :: st) I Q) : q_X k pc ls (.int y :: .int x :: st) I Q := by
  intro ω p l e R s m args below meth c cells slots QZ hC hR H locs LS hL hP hS
  exact lv_ishl hC.1 hC.2.1 hd (kk ω p l e R s m args below meth c cells slots QZ hC hR H locs LS hL hP hS)
theorem q_ishr {x y : Int32} (hd : decode k.2.1 pc = .ok (.ishr, 1)) (kk : q_X k (pc + 1) ls (.int (x >>> (y &&& 31)) :: st) I Q) : q_X k pc ls (.int y :: .int x :: st) I Q := by
  intro ω p l e R s m args below meth c cells slots QZ hC hR H locs LS hL hP hS
  exact lv_ishr hC.1 hC.2.1 hd (kk ω p l e R s m args below meth c cells slots QZ hC hR H locs LS hL hP hS)
theorem q_iushr {x y v : Int32} (hd : decode k.2.1 pc = .ok (.iushr, 1)) (hv : (x.toUInt32 >>> (y.toUInt32 &&& 31)).toInt32 = v) (kk : q_X k (pc + 1) ls (.int v :: st) I Q) : q_X k pc ls (.int y :: .int x :: st) I Q := by
  intro ω p l e R s m args below meth c cells slots QZ hC hR H locs LS hL hP hS
  exact lv_iushr hC.1 hC.2.1 hd hv (kk ω p l e R s m args below meth c cells slots QZ hC hR H locs LS hL hP hS)
theorem q_idiv {x y : Int32} (hd : decode k.2.1 pc = .ok (.idiv, 1)) (hne : ¬ y = 0) (kk : q_X k (pc + 1) ls (.int (x / y) :: st) I Q) : q_X k pc ls (.int y :: .int x :: st) I Q := by
  intro ω p l e R s m args below meth c cells slots QZ hC hR H locs LS hL hP hS
  exact lv_idiv hC.1 hC.2.1 hd hne (kk ω p l e R s m args below meth c cells slots QZ hC hR H locs LS hL hP hS)
theorem q_irem {x y : Int32} (hd : decode k.2.1 pc = .ok (.irem, 1)) (hne : ¬ y = 0) (kk : q_X k (pc + 1) ls (.int (x - x / y * y) :: st) I Q) : q_X k pc ls (.int y :: .int x :: st) I Q := by
  intro ω p l e R s m args below meth c cells slots QZ hC hR H locs LS hL hP hS
  exact lv_irem hC.1 hC.2.1 hd hne (kk ω p l e R s m args below meth c cells slots QZ hC hR H locs LS hL hP hS)
theorem q_ineg {x : Int32} (hd : decode k.2.1 pc = .ok (.ineg, 1)) (kk : q_X k (pc + 1) ls (.int (-x) :: st) I Q) : q_X k pc ls (.int x :: st) I Q := by
  intro ω p l e R s m args below meth c cells slots QZ hC hR H locs LS hL hP hS
  exact lv_ineg hC.1 hC.2.1 hd (kk ω p l e R s m args below meth c cells slots QZ hC hR H locs LS hL hP hS)
theorem q_i2c {x v : Int32} (hd : decode k.2.1 pc = .ok (.i2c, 1)) (hv : (x.toUInt32 % 65536).toInt32 = v) (kk : q_X k (pc + 1) ls (.int v :: st) I Q) : q_X k pc ls (.int x :: st) I Q := by
  intro ω p l e R s m args below meth c cells slots QZ hC hR H locs LS hL hP hS
  exact lv_i2c hC.1 hC.2.1 hd hv (kk ω p l e R s m args below meth c cells slots QZ hC hR H locs LS hL hP hS)
theorem q_i2f {x : Int32} (hd : decode k.2.1 pc = .ok (.i2f, 1)) (kk : q_X k (pc + 1) ls (.float (FP.i2f x) :: st) I Q) : q_X k pc ls (.int x :: st) I Q := by
  intro ω p l e R s m args below meth c cells slots QZ hC hR H locs LS hL hP hS
  exact lv_i2f hC.1 hC.2.1 hd (kk ω p l e R s m args below meth c cells slots QZ hC hR H locs LS hL hP hS)
theorem q_f2i {x : UInt32} (hd : decode k.2.1 pc = .ok (.f2i, 1)) (kk : q_X k (pc + 1) ls (.int (FP.f2i x) :: st) I Q) : q_X k pc ls (.float x :: st) I Q := by
  intro ω p l e R s m args below meth c cells slots QZ hC hR H locs LS hL hP hS
  exact lv_f2i hC.1 hC.2.1 hd (kk ω p l e R s m args below meth c cells slots QZ hC hR H locs LS hL hP hS)
theorem q_fmul {x y : UInt32} (hd : decode k.2.1 pc = .ok (.fmul, 1)) (hne : vf_n32 (FP.fmul x y)) (kk : q_X k (pc + 1) ls (.float (FP.fmul x y) :: st) I Q) : q_X k pc ls (.float y :: .float x :: st) I Q := by
  intro ω p l e R s m args below meth c cells slots QZ hC hR H locs LS hL hP hS
  exact lv_fmul hC.1 hC.2.1 hd hne (kk ω p l e R s m args below meth c cells slots QZ hC hR H locs LS hL hP hS)
theorem q_fdiv {x y : UInt32} (hd : decode k.2.1 pc = .ok (.fdiv, 1)) (hne : vf_n32 (FP.fdiv x y)) (kk : q_X k (pc + 1) ls (.float (FP.fdiv x y) :: st) I Q) : q_X k pc ls (.float y :: .float x :: st) I Q := by
  intro ω p l e R s m args below meth c cells slots QZ hC hR H locs LS hL hP hS
  exact lv_fdiv hC.1 hC.2.1 hd hne (kk ω p l e R s m args below meth c cells slots QZ hC hR H locs LS hL hP hS)
theorem q_fsub {x y : UInt32} (hd : decode k.2.1 pc = .ok (.fsub, 1)) (hne : vf_n32 (FP.fsub x y)) (kk : q_X k (pc + 1) ls (.float (FP.fsub x y) :: st) I Q) : q_X k pc ls (.float y :: .float x :: st) I Q := by
  intro ω p l e R s m args below meth c cells slots QZ hC hR H locs LS hL hP hS
  exact lv_fsub hC.1 hC.2.1 hd hne (kk ω p l e R s m args below meth c cells slots QZ hC hR H locs LS hL hP hS)
theorem q_fcmp {x y : UInt32} {op : CmpOp} (hd : decode k.2.1 pc = .ok (.fcmp op, 1)) (kk : q_X k (pc + 1) ls (.int (Op.cmpValue (FP.fcmp x y) op) :: st) I Q) : q_X k pc ls (.float y :: .float x :: st) I Q := by
  intro ω p l e R s m args below meth c cells slots QZ hC hR H locs LS hL hP hS
  exact lv_fcmp hC.1 hC.2.1 hd (kk ω p l e R s m args below meth c cells slots QZ hC hR H locs LS hL hP hS)
theorem q_fconst0 (hd : decode k.2.1 pc = .ok (.fconst 0, 1)) (kk : q_X k (pc + 1) ls (.float FP.fconst0 :: st) I Q) : q_X k pc ls st I Q := by
  intro ω p l e R s m args below meth c cells slots QZ hC hR H locs LS hL hP hS
  exact lv_fconst0 hC.1 hC.2.1 hd (kk ω p l e R s m args below meth c cells slots QZ hC hR H locs LS hL hP hS)
theorem q_fconst1 (hd : decode k.2.1 pc = .ok (.fconst 1, 1)) (kk : q_X k (pc + 1) ls (.float FP.fconst1 :: st) I Q) : q_X k pc ls st I Q := by
  intro ω p l e R s m args below meth c cells slots QZ hC hR H locs LS hL hP hS
  exact lv_fconst1 hC.1 hC.2.1 hd (kk ω p l e R s m args below meth c cells slots QZ hC hR H locs LS hL hP hS)
theorem q_fconst2 (hd : decode k.2.1 pc = .ok (.fconst 2, 1)) (kk : q_X k (pc + 1) ls (.float FP.fconst2 :: st) I Q) : q_X k pc ls st I Q := by
  intro ω p l e R s m args below meth c cells slots QZ hC hR H locs LS hL hP hS
  exact lv_fconst2 hC.1 hC.2.1 hd (kk ω p l e R s m args below meth c cells slots QZ hC hR H locs LS hL hP hS)
theorem q_null (hd : decode k.2.1 pc = .ok (.aconst_null, 1)) (kk : q_X k (pc + 1) ls (.null :: st) I Q) : q_X k pc ls st I Q := by
  intro ω p l e R s m args below meth c cells slots QZ hC hR H locs LS hL hP hS
  exact lv_null hC.1 hC.2.1 hd (kk ω p l e R s m args below meth c cells slots QZ hC hR H locs LS hL hP hS)
theorem q_dup {v : Value} (hd : decode k.2.1 pc = .ok (.dup, 1)) (hv : v.category = 1) (kk : q_X k (pc + 1) ls (v :: v :: st) I Q) : q_X k pc ls (v :: st) I Q := by
  intro ω p l e R s m args below meth c cells slots QZ hC hR H locs LS hL hP hS
  exact lv_dup hC.1 hC.2.1 hd ((q_cv_cat ω v).trans hv) (kk ω p l e R s m args below meth c cells slots QZ hC hR H locs LS hL hP hS)
theorem q_pop {v : Value} (hd : decode k.2.1 pc = .ok (.pop, 1)) (hv : v.category = 1) (kk : q_X k (pc + 1) ls st I Q) : q_X k pc ls (v :: st) I Q := by
  intro ω p l e R s m args below meth c cells slots QZ hC hR H locs LS hL hP hS
  exact lv_pop hC.1 hC.2.1 hd ((q_cv_cat ω v).trans hv) (kk ω p l e R s m args below meth c cells slots QZ hC hR H locs LS hL hP hS)
theorem q_dup2 {v w : Value} (hd : decode k.2.1 pc = .ok (.dup2, 1)) (hv : v.category = 1) (hw : w.category = 1) (kk : q_X k (pc + 1) ls (v :: w :: v :: w :: st) I Q) : q_X k pc ls (v :: w :: st) I Q := by
  intro ω p l e R s m args below meth c cells slots QZ hC hR H locs LS hL hP hS
  exact lv_dup2_11 hC.1 hC.2.1 hd ((q_cv_cat ω v).trans hv) ((q_cv_cat ω w).trans hw) (kk ω p l e R s m args below meth c cells slots QZ hC hR H locs LS hL hP hS)
theorem q_goto {off : Int} {tgt : Nat} (hd : decode k.2.1 pc = .ok (.goto off, 3)) (ht : (pc : Int) + off = (tgt : Int)) (kk : q_X k tgt ls st I Q) : q_X k pc ls st I Q := by
  intro ω p l e R s m args below meth c cells slots QZ hC hR H locs LS hL hP hS
  exact lv_goto hC.1 hC.2.1 hd ht (kk ω p l e R s m args below meth c cells slots QZ hC hR H locs LS hL hP hS)
theorem q_ifnull {a : Nat} {off : Int} (hd : decode k.2.1 pc = .ok (.ifnull off, 3)) (kk : q_X k (pc + 3) ls st I Q) : q_X k pc ls (.ref a :: st) I Q := by
  intro ω p l e R s m args below meth c cells slots QZ hC hR H locs LS hL hP hS
  exact lv_ifnull hC.1 hC.2.1 hd (kk ω p l e R s m args below meth c cells slots QZ hC hR H locs LS hL hP hS)
theorem q_ifnullN {off : Int} {tgt : Nat} (hd : decode k.2.1 pc = .ok (.ifnull off, 3)) (ht : (pc : Int) + off = (tgt : Int)) (kk : q_X k tgt ls st I Q) : q_X k pc ls (.null :: st) I Q := by
  intro ω p l e R s m args below meth c cells slots QZ hC hR H locs LS hL hP hS
  exact lv_ifnullN hC.1 hC.2.1 hd ht (kk ω p l e R s m args below meth c cells slots QZ hC hR H locs LS hL hP hS)
theorem q_ifnonnull {a : Nat} {off : Int} {tgt : Nat} (hd : decode k.2.1 pc = .ok (.ifnonnull off, 3)) (ht : (pc : Int) + off = (tgt : Int)) (kk : q_X k tgt ls st I Q) : q_X k pc ls (.ref a :: st) I Q := by
  intro ω p l e R s m args below meth c cells slots QZ hC hR H locs LS hL hP hS
  exact lv_ifnonnull hC.1 hC.2.1 hd ht (kk ω p l e R s m args below meth c cells slots QZ hC hR H locs LS hL hP hS)
theorem q_ifnonnullN {off : Int} (hd : decode k.2.1 pc = .ok (.ifnonnull off, 3)) (kk : q_X k (pc + 3) ls st I Q) : q_X k pc ls (.null :: st) I Q := by
  intro ω p l e R s m args below meth c cells slots QZ hC hR H locs LS hL hP hS
  exact lv_ifnonnullN hC.1 hC.2.1 hd (kk ω p l e R s m args below meth c cells slots QZ hC hR H locs LS hL hP hS)
theorem q_if_eq {x : Int32} {off : Int} {tgt : Nat} (hd : decode k.2.1 pc = .ok (.ifCond .eq off, 3)) (ht : (pc : Int) + off = (tgt : Int)) (kt : x = 0 → q_X k tgt ls st I Q) (kf : ¬ x = 0 → q_X k (pc + 3) ls st I Q) : q_X k pc ls (.int x :: st) I Q := by
  intro ω p l e R s m args below meth c cells slots QZ hC hR H locs LS hL hP hS
  exact lv_if_eq hC.1 hC.2.1 hd ht (fun q => kt q ω p l e R s m args below meth c cells slots QZ hC hR H locs LS hL hP hS) (fun q => kf q ω p l e R s m args below meth c cells slots QZ hC hR H locs LS hL hP hS)
theorem q_icmp_eq {x y : Int32} {off : Int} {tgt : Nat} (hd : decode k.2.1 pc = .ok (.if_icmp .eq off, 3)) (ht : (pc : Int) + off = (tgt : Int)) (kt : x = y → q_X k tgt ls st I Q) (kf : ¬ x = y → q_X k (pc + 3) ls st I Q) : q_X k pc ls (.int y :: .int x :: st) I Q := by
  intro ω p l e R s m args below meth c cells slots QZ hC hR H locs LS hL hP hS
  exact lv_icmp_eq hC.1 hC.2.1 hd ht (fun q => kt q ω p l e R s m args below meth c cells slots QZ hC hR H locs LS hL hP hS) (fun q => kf q ω p l e R s m args below meth c cells slots QZ hC hR H locs LS hL hP hS)
theorem q_if_ne {x : Int32} {off : Int} {tgt : Nat} (hd : decode k.2.1 pc = .ok (.ifCond .ne off, 3)) (ht : (pc : Int) + off = (tgt : Int)) (kt : ¬ x = 0 → q_X k tgt ls st I Q) (kf : x = 0 → q_X k (pc + 3) ls st I Q) : q_X k pc ls (.int x :: st) I Q := by
  intro ω p l e R s m args below meth c cells slots QZ hC hR H locs LS hL hP hS
  exact lv_if_ne hC.1 hC.2.1 hd ht (fun q => kt q ω p l e R s m args below meth c cells slots QZ hC hR H locs LS hL hP hS) (fun q => kf q ω p l e R s m args below meth c cells slots QZ hC hR H locs LS hL hP hS)
theorem q_icmp_ne {x y : Int32} {off : Int} {tgt : Nat} (hd : decode k.2.1 pc = .ok (.if_icmp .ne off, 3)) (ht : (pc : Int) + off = (tgt : Int)) (kt : ¬ x = y → q_X k tgt ls st I Q) (kf : x = y → q_X k (pc + 3) ls st I Q) : q_X k pc ls (.int y :: .int x :: st) I Q := by
  intro ω p l e R s m args below meth c cells slots QZ hC hR H locs LS hL hP hS
  exact lv_icmp_ne hC.1 hC.2.1 hd ht (fun q => kt q ω p l e R s m args below meth c cells slots QZ hC hR H locs LS hL hP hS) (fun q => kf q ω p l e R s m args below meth c cells slots QZ hC hR H locs LS hL hP hS)
theorem q_if_lt {x : Int32} {off : Int} {tgt : Nat} (hd : decode k.2.1 pc = .ok (.ifCond .lt off, 3)) (ht : (pc : Int) + off = (tgt : Int)) (kt : x < 0 → q_X k tgt ls st I Q) (kf : ¬ x < 0 → q_X k (pc + 3) ls st I Q) : q_X k pc ls (.int x :: st) I Q := by
  intro ω p l e R s m args below meth c cells slots QZ hC hR H locs LS hL hP hS
  exact lv_if_lt hC.1 hC.2.1 hd ht (fun q => kt q ω p l e R s m args below meth c cells slots QZ hC hR H locs LS hL hP hS) (fun q => kf q ω p l e R s m args below meth c cells slots QZ hC hR H locs LS hL hP hS)
theorem q_icmp_lt {x y : Int32} {off : Int} {tgt : Nat} (hd : decode k.2.1 pc = .ok (.if_icmp .lt off, 3)) (ht : (pc : Int) + off = (tgt : Int)) (kt : x < y → q_X k tgt ls st I Q) (kf : ¬ x < y → q_X k (pc + 3) ls st I Q) : q_X k pc ls (.int y :: .int x :: st) I Q := by
  intro ω p l e R s m args below meth c cells slots QZ hC hR H locs LS hL hP hS
  exact lv_icmp_lt hC.1 hC.2.1 hd ht (fun q => kt q ω p l e R s m args below meth c cells slots QZ hC hR H locs LS hL hP hS) (fun q => kf q ω p l e R s m args below meth c cells slots QZ hC hR H locs LS hL hP hS)
theorem q_if_ge {x : Int32} {off : Int} {tgt : Nat} (hd : decode k.2.1 pc = .ok (.ifCond .ge off, 3)) (ht : (pc : Int) + off = (tgt : Int)) (kt : 0 ≤ x → q_X k tgt ls st I Q) (kf : ¬ 0 ≤ x → q_X k (pc + 3) ls st I Q) : q_X k pc ls (.int x :: st) I Q := by
  intro ω p l e R s m args below meth c cells slots QZ hC hR H locs LS hL hP hS
  exact lv_if_ge hC.1 hC.2.1 hd ht (fun q => kt q ω p l e R s m args below meth c cells slots QZ hC hR H locs LS hL hP hS) (fun q => kf q ω p l e R s m args below meth c cells slots QZ hC hR H locs LS hL hP hS)
theorem q_icmp_ge {x y : Int32} {off : Int} {tgt : Nat} (hd : decode k.2.1 pc = .ok (.if_icmp .ge off, 3)) (ht : (pc : Int) + off = (tgt : Int)) (kt : y ≤ x → q_X k tgt ls st I Q) (kf : ¬ y ≤ x → q_X k (pc + 3) ls st I Q) : q_X k pc ls (.int y :: .int x :: st) I Q := by
  intro ω p l e R s m args below meth c cells slots QZ hC hR H locs LS hL hP hS
  exact lv_icmp_ge hC.1 hC.2.1 hd ht (fun q => kt q ω p l e R s m args below meth c cells slots QZ hC hR H locs LS hL hP hS) (fun q => kf q ω p l e R s m args below meth c cells slots QZ hC hR H locs LS hL hP hS)
theorem q_if_gt {x : Int32} {off : Int} {tgt : Nat} (hd : decode k.2.1 pc = .ok (.ifCond .gt off, 3)) (ht : (pc : Int) + off = (tgt : Int)) (kt : 0 < x → q_X k tgt ls st I Q) (kf : ¬ 0 < x → q_X k (pc + 3) ls st I Q) : q_X k pc ls (.int x :: st) I Q := by
  intro ω p l e R s m args below meth c cells slots QZ hC hR H locs LS hL hP hS
  exact lv_if_gt hC.1 hC.2.1 hd ht (fun q => kt q ω p l e R s m args below meth c cells slots QZ hC hR H locs LS hL hP hS) (fun q => kf q ω p l e R s m args below meth c cells slots QZ hC hR H locs LS hL hP hS)
theorem q_icmp_gt {x y : Int32} {off : Int} {tgt : Nat} (hd : decode k.2.1 pc = .ok (.if_icmp .gt off, 3)) (ht : (pc : Int) + off = (tgt : Int)) (kt : y < x → q_X k tgt ls st I Q) (kf : ¬ y < x → q_X k (pc + 3) ls st I Q) : q_X k pc ls (.int y :: .int x :: st) I Q := by
  intro ω p l e R s m args below meth c cells slots QZ hC hR H locs LS hL hP hS
  exact lv_icmp_gt hC.1 hC.2.1 hd ht (fun q => kt q ω p l e R s m args below meth c cells slots QZ hC hR H locs LS hL hP hS) (fun q => kf q ω p l e R s m args below meth c cells slots QZ hC hR H locs LS hL hP hS)
theorem q_if_le {x : Int32} {off : Int} {tgt : Nat} (hd : decode k.2.1 pc = .ok (.ifCond .le off, 3)) (ht : (pc : Int) + off = (tgt : Int)) (kt : x ≤ 0 → q_X k tgt ls st I Q) (kf : ¬ x ≤ 0 → q_X k (pc + 3) ls st I Q) : q_X k pc ls (.int x :: st) I Q := by
  intro ω p l e R s m args below meth c cells slots QZ hC hR H locs LS hL hP hS
  exact lv_if_le hC.1 hC.2.1 hd ht (fun q => kt q ω p l e R s m args below meth c cells slots QZ hC hR H locs LS hL hP hS) (fun q => kf q ω p l e R s m args below meth c cells slots QZ hC hR H locs LS hL hP hS)
theorem q_icmp_le {x y : Int32} {off : Int} {tgt : Nat} (hd : decode k.2.1 pc = .ok (.if_icmp .le off, 3)) (ht : (pc : Int) + off = (tgt : Int)) (kt : x ≤ y → q_X k tgt ls st I Q) (kf : ¬ x ≤ y → q_X k (pc + 3) ls st I Q) : q_X k pc ls (.int y :: .int x :: st) I Q := by
  intro ω p l e R s m args below meth c cells slots QZ hC hR H locs LS hL hP hS
  exact lv_icmp_le hC.1 hC.2.1 hd ht (fun q => kt q ω p l e R s m args below meth c cells slots QZ hC hR H locs LS hL hP hS) (fun q => kf q ω p l e R s m args below meth c cells slots QZ hC hR H locs LS hL hP hS)
theorem q_icmp_eqN {a b : Nat} {off : Int} {tgt : Nat} (ha : a < 2 ^ 31) (hb : b < 2 ^ 31) (hd : decode k.2.1 pc = .ok (.if_icmp .eq off, 3)) (ht : (pc : Int) + off = (tgt : Int)) (kt : a = b → q_X k tgt ls st I Q) (kf : ¬ a = b → q_X k (pc + 3) ls st I Q) : q_X k pc ls (.int (nI b) :: .int (nI a) :: st) I Q :=
  q_icmp_eq hd ht (fun q => kt ((nI_eq ha hb).mp q)) (fun q => kf (fun z => q ((nI_eq ha hb).mpr z)))
theorem q_if_eqN {a : Nat} {off : Int} {tgt : Nat} (ha : a < 2 ^ 31) (hd : decode k.2.1 pc = .ok (.ifCond .eq off, 3)) (ht : (pc : Int) + off = (tgt : Int)) (kt : a = 0 → q_X k tgt ls st I Q) (kf : ¬ a = 0 → q_X k (pc + 3) ls st I Q) : q_X k pc ls (.int (nI a) :: st) I Q := by
  have hb : (0 : Nat) < 2 ^ 31 := by decide
  exact q_if_eq hd ht (fun q => kt ((nI_eq ha hb).mp q)) (fun q => kf (fun z => q ((nI_eq ha hb).mpr z)))
theorem q_icmp_neN {a b : Nat} {off : Int} {tgt : Nat} (ha : a < 2 ^ 31) (hb : b < 2 ^ 31) (hd : decode k.2.1 pc = .ok (.if_icmp .ne off, 3)) (ht : (pc : Int) + off = (tgt : Int)) (kt : ¬ a = b → q_X k tgt ls st I Q) (kf : a = b → q_X k (pc + 3) ls st I Q) : q_X k pc ls (.int (nI b) :: .int (nI a) :: st) I Q :=
  q_icmp_ne hd ht (fun q => kt (fun z => q ((nI_eq ha hb).mpr z))) (fun q => kf ((nI_eq ha hb).mp q))
theorem q_if_neN {a : Nat} {off : Int} {tgt : Nat} (ha : a < 2 ^ 31) (hd : decode k.2.1 pc = .ok (.ifCond .ne off, 3)) (ht : (pc : Int) + off = (tgt : Int)) (kt : ¬ a = 0 → q_X k tgt ls st I Q) (kf : a = 0 → q_X k (pc + 3) ls st I Q) : q_X k pc ls (.int (nI a) :: st) I Q := by
  have hb : (0 : Nat) < 2 ^ 31 := by decide
  exact q_if_ne hd ht (fun q => kt (fun z => q ((nI_eq ha hb).mpr z))) (fun q => kf ((nI_eq ha hb).mp q))
theorem q_icmp_ltN {a b : Nat} {off : Int} {tgt : Nat} (ha : a < 2 ^ 31) (hb : b < 2 ^ 31) (hd : decode k.2.1 pc = .ok (.if_icmp .lt off, 3)) (ht : (pc : Int) + off = (tgt : Int)) (kt : a < b → q_X k tgt ls st I Q) (kf : b ≤ a → q_X k (pc + 3) ls st I Q) : q_X k pc ls (.int (nI b) :: .int (nI a) :: st) I Q :=
  q_icmp_lt hd ht (fun q => kt ((nI_ltI ha hb).mp q)) (fun q => kf (Nat.not_lt.mp (fun z => q ((nI_ltI ha hb).mpr z))))
theorem q_if_ltN {a : Nat} {off : Int} {tgt : Nat} (ha : a < 2 ^ 31) (hd : decode k.2.1 pc = .ok (.ifCond .lt off, 3)) (ht : (pc : Int) + off = (tgt : Int)) (kt : a < 0 → q_X k tgt ls st I Q) (kf : 0 ≤ a → q_X k (pc + 3) ls st I Q) : q_X k pc ls (.int (nI a) :: st) I Q := by
  have hb : (0 : Nat) < 2 ^ 31 := by decide
  exact q_if_lt hd ht (fun q => kt ((nI_ltI ha hb).mp q)) (fun q => kf (Nat.not_lt.mp (fun z => q ((nI_ltI ha hb).mpr z))))
theorem q_icmp_geN {a b : Nat} {off : Int} {tgt : Nat} (ha : a < 2 ^ 31) (hb : b < 2 ^ 31) (hd : decode k.2.1 pc = .ok (.if_icmp .ge off, 3)) (ht : (pc : Int) + off = (tgt : Int)) (kt : b ≤ a → q_X k tgt ls st I Q) (kf : a < b → q_X k (pc + 3) ls st I Q) : q_X k pc ls (.int (nI b) :: .int (nI a) :: st) I Q :=
  q_icmp_ge hd ht (fun q => kt ((nI_leI hb ha).mp q)) (fun q => kf (Nat.not_le.mp (fun z => q ((nI_leI hb ha).mpr z))))
theorem q_if_geN {a : Nat} {off : Int} {tgt : Nat} (ha : a < 2 ^ 31) (hd : decode k.2.1 pc = .ok (.ifCond .ge off, 3)) (ht : (pc : Int) + off = (tgt : Int)) (kt : 0 ≤ a → q_X k tgt ls st I Q) (kf : a < 0 → q_X k (pc + 3) ls st I Q) : q_X k pc ls (.int (nI a) :: st) I Q := by
  have hb : (0 : Nat) < 2 ^ 31 := by decide
  exact q_if_ge hd ht (fun q => kt ((nI_leI hb ha).mp q)) (fun q => kf (Nat.not_le.mp (fun z => q ((nI_leI hb ha).mpr z))))
theorem q_icmp_gtN {a b : Nat} {off : Int} {tgt : Nat} (ha : a < 2 ^ 31) (hb : b < 2 ^ 31) (hd : decode k.2.1 pc = .ok (.if_icmp .gt off, 3)) (ht : (pc : Int) + off = (tgt : Int)) (kt : b < a → q_X k tgt ls st I Q) (kf : a ≤ b → q_X k (pc + 3) ls st I Q) : q_X k pc ls (.int (nI b) :: .int (nI a) :: st) I Q :=
  q_icmp_gt hd ht (fun q => kt ((nI_ltI hb ha).mp q)) (fun q => kf (Nat.not_lt.mp (fun z => q ((nI_ltI hb ha).mpr z))))
theorem q_if_gtN {a : Nat} {off : Int} {tgt : Nat} (ha : a < 2 ^ 31) (hd : decode k.2.1 pc = .ok (.ifCond .gt off, 3)) (ht : (pc : Int) + off = (tgt : Int)) (kt : 0 < a → q_X k tgt ls st I Q) (kf : a ≤ 0 → q_X k (pc + 3) ls st I Q) : q_X k pc ls (.int (nI a) :: st) I Q := by
  have hb : (0 : Nat) < 2 ^ 31 := by decide
  exact q_if_gt hd ht (fun q => kt ((nI_ltI hb ha).mp q)) (fun q => kf (Nat.not_lt.mp (fun z => q ((nI_ltI hb ha).mpr z))))
theorem q_icmp_leN {a b : Nat} {off : Int} {tgt : Nat} (ha : a < 2 ^ 31) (hb : b < 2 ^ 31) (hd : decode k.2.1 pc = .ok (.if_icmp .le off, 3)) (ht : (pc : Int) + off = (tgt : Int)) (kt : a ≤ b → q_X k tgt ls st I Q) (kf : b < a → q_X k (pc + 3) ls st I Q) : q_X k pc ls (.int (nI b) :: .int (nI a) :: st) I Q :=
  q_icmp_le hd ht (fun q => kt ((nI_leI ha hb).mp q)) (fun q => kf (Nat.not_le.mp (fun z => q ((nI_leI ha hb).mpr z))))
theorem q_if_leN {a : Nat} {off : Int} {tgt : Nat} (ha : a < 2 ^ 31) (hd : decode k.2.1 pc = .ok (.ifCond .le off, 3)) (ht : (pc : Int) + off = (tgt : Int)) (kt : a ≤ 0 → q_X k tgt ls st I Q) (kf : 0 < a → q_X k (pc + 3) ls st I Q) : q_X k pc ls (.int (nI a) :: st) I Q := by
  have hb : (0 : Nat) < 2 ^ 31 := by decide
  exact q_if_le hd ht (fun q => kt ((nI_leI ha hb).mp q)) (fun q => kf (Nat.not_le.mp (fun z => q ((nI_leI ha hb).mpr z))))
theorem q_tabIn {dflt lo hi : Int} {offs : Array Int} {len : Nat} {x : Int32} {off : Int} {tgt : Nat} (hd : decode k.2.1 pc = .ok (.tableswitch dflt lo hi offs, len)) (h1 : ¬ x.toInt < lo) (h2 : ¬ hi < x.toInt) (ho : offs[(x.toInt - lo).toNat]? = some off) (ht : (pc : Int) + off = (tgt : Int)) (kk : q_X k tgt ls st I Q) : q_X k pc ls (.int x :: st) I Q := by
  intro ω p l e R s m args below meth c cells slots QZ hC hR H locs LS hL hP hS
  exact lv_tableIn hC.1 hC.2.1 hd h1 h2 ho ht (kk ω p l e R s m args below meth c cells slots QZ hC hR H locs LS hL hP hS)
theorem q_tabOut {dflt lo hi : Int} {offs : Array Int} {len : Nat} {x : Int32} {tgt : Nat} (hd : decode k.2.1 pc = .ok (.tableswitch dflt lo hi offs, len)) (h : x.toInt < lo ∨ hi < x.toInt) (ht : (pc : Int) + dflt = (tgt : Int)) (kk : q_X k tgt ls st I Q) : q_X k pc ls (.int x :: st) I Q := by
  intro ω p l e R s m args below meth c cells slots QZ hC hR H locs LS hL hP hS
  exact lv_tableOut hC.1 hC.2.1 hd h ht (kk ω p l e R s m args below meth c cells slots QZ hC hR H locs LS hL hP hS)
theorem q_lookup {dflt : Int} {ps : Array (Int × Int)} {len : Nat} {x : Int32} {off : Int} {tgt : Nat} (hd : decode k.2.1 pc = .ok (.lookupswitch dflt ps, len)) (hp : (ps.toList.zip (ps.toList.drop 1)).all (fun (a, next) => a.1 < next.1) = true) (ho : Op.lookupswitch.offset ps.toList dflt x.toInt = off) (ht : (pc : Int) + off = (tgt : Int)) (kk : q_X k tgt ls st I Q) : q_X k pc ls (.int x :: st) I Q := by
  intro ω p l e R s m args below meth c cells slots QZ hC hR H locs LS hL hP hS
  exact lv_lookup hC.1 hC.2.1 hd hp ho ht (kk ω p l e R s m args below meth c cells slots QZ hC hR H locs LS hL hP hS)
theorem q_iret {x : Int32} {ty : FieldType} (hr : k.2.2.2.1 = some ty) (hn : narrow ty (.int x) = .int x) (hd : decode k.2.1 pc = .ok (.ireturn, 1)) (hQ : Q (some (.int x)) I) : q_X k pc ls [.int x] I Q := by
  intro ω p l e R s m args below meth c cells slots QZ hC hR H locs LS hL hP hS
  exact hR pc LS H locs (some (.int x)) I (Or.inr (Or.inl ⟨x, ty, rfl, hr, hn, hd⟩)) hQ hP hS
theorem q_vret (hr : k.2.2.2.1 = none) (hd : decode k.2.1 pc = .ok (.return_, 1)) (hQ : Q none I) : q_X k pc ls [] I Q := by
  intro ω p l e R s m args below meth c cells slots QZ hC hR H locs LS hL hP hS
  exact hR pc LS H locs none I (Or.inl ⟨rfl, hr, hd⟩) hQ hP hS
theorem q_aret {a : Nat} {n : String} (hr : k.2.2.2.1 = some (.object n)) (hd : decode k.2.1 pc = .ok (.areturn, 1)) (hQ : Q (some (.ref a)) I) : q_X k pc ls [.ref a] I Q := by
  intro ω p l e R s m args below meth c cells slots QZ hC hR H locs LS hL hP hS
  exact hR pc LS H locs (some (.ref a)) I (Or.inr (Or.inr ⟨n, hr, Or.inr ⟨a, rfl⟩, hd⟩)) hQ hP hS
theorem q_aretN {n : String} (hr : k.2.2.2.1 = some (.object n)) (hd : decode k.2.1 pc = .ok (.areturn, 1)) (hQ : Q (some .null) I) : q_X k pc ls [.null] I Q := by
  intro ω p l e R s m args below meth c cells slots QZ hC hR H locs LS hL hP hS
  exact hR pc LS H locs (some .null) I (Or.inr (Or.inr ⟨n, hr, Or.inl rfl, hd⟩)) hQ hP hS
theorem q_X.mono {Q' : Option Value → q_Mem → Prop} (h : q_X k pc ls st I Q) (hq : ∀ v J, Q v J → Q' v J) : q_X k pc ls st I Q' := by
  intro ω p l e R s m args below meth c cells slots QZ hC hR H locs LS hL hP hS
  exact h ω p l e R s m args below meth c cells slots QZ hC (fun pc' LS' H' locs' v J h1 h2 => hR pc' LS' H' locs' v J h1 (hq v J h2)) H locs LS hL hP hS
end q_rules2
end
section
/-! THE X LAYER: fields, arrays, calls; a contract out of a body -/
def q_ty (c : Nat) : Nat → FieldType := match c with
  | 0 => tyX0
  | 1 => tyX1
  | 2 => tyX2
  | 3 => tyX3
  | 4 => tyX4
  | 5 => tyX6
  | _ => tyX7
theorem q_vc : ∀ c, c < 7 → vwCl[c]? = some (q_C c, q_T c, q_nf c) := by
  intro c h
  match c, h with
  | 0, _ => rfl
  | 1, _ => rfl
  | 2, _ => rfl
  | 3, _ => rfl
  | 4, _ => rfl
  | 5, _ => rfl
  | 6, _ => rfl
  | n + 7, h => omega
theorem q_wsin : ∀ c, c < 7 → ∀ w ∈ u_ws (q_C c) (q_T c) (q_nf c), w ∈ q_gw := by
  have key : ∀ c, c < 7 → ∀ w ∈ u_ws (q_C c) (q_T c) (q_nf c), w ∈ lw_tbl ∧ goodWord w = true := by
    intro c h
    match c, h with
    | 0, _ => exact fun w hw => ⟨inX0 w hw, (show ∀ w ∈ wsX00, goodWord w = true by decide +kernel) w hw⟩
    | 1, _ => exact fun w hw => ⟨inX1 w hw, (show ∀ w ∈ wsX10, goodWord w = true by decide +kernel) w hw⟩
    | 2, _ => exact fun w hw => ⟨inX2 w hw, (show ∀ w ∈ wsX20, goodWord w = true by decide +kernel) w hw⟩
    | 3, _ => exact fun w hw => ⟨inX3 w hw, (show ∀ w ∈ wsX30, goodWord w = true by decide +kernel) w hw⟩
    | 4, _ => exact fun w hw => ⟨inX4 w hw, (show ∀ w ∈ wsX40, goodWord w = true by decide +kernel) w hw⟩
    | 5, _ => exact fun w hw => ⟨inX6 w hw, (show ∀ w ∈ wsX60, goodWord w = true by decide +kernel) w hw⟩
    | 6, _ => exact fun w hw => ⟨inX7 w hw, (show ∀ w ∈ wsX70, goodWord w = true by decide +kernel) w hw⟩
    | n + 7, h => omega
  exact fun c h w hw => q_in (key c h w hw).1 (key c h w hw).2
theorem q_tyok : ∀ c, c < 7 → ∀ j, j < q_nf c → parseFieldDescriptor ((q_T c) j).2.2.1 = some (q_ty c j) := by
  intro c h
  match c, h with
  | 0, _ => exact tyX0_ok
  | 1, _ => exact tyX1_ok
  | 2, _ => exact tyX2_ok
  | 3, _ => exact tyX3_ok
  | 4, _ => exact tyX4_ok
  | 5, _ => exact tyX6_ok
  | 6, _ => exact tyX7_ok
  | n + 7, h => omega
theorem q_nm : ∀ c, c < 7 → ∀ a, a < q_nf c → ∀ b, b < q_nf c → a ≠ b → ((q_T c) a).2.1 ≠ ((q_T c) b).2.1 := by
  intro c h
  match c, h with
  | 0, _ => exact nmX0
  | 1, _ => exact nmX1
  | 2, _ => exact nmX2
  | 3, _ => exact nmX3
  | 4, _ => exact nmX4
  | 5, _ => exact nmX6
  | 6, _ => exact nmX7
  | n + 7, h => omega
theorem q_kd_lt {k c : Nat} (h : q_kd k = c) (hc : c < 99) : k < 362 := by
  rcases Nat.lt_or_ge k 362 with z | z
  · exact z
  · have : q_kd k = 99 := by
      unfold q_kd
      rw [if_neg (by omega), if_neg (by omega), if_neg (by omega), if_neg (by omega), if_neg (by omega), if_neg (by omega), if_neg (by omega), if_neg (by omega), if_neg (by omega), if_neg (by omega)]
    omega
/-- the field of the place idx of own's pool: class c, slot j -/
abbrev q_Fl (own : String) (idx c j : Nat) : Prop := c < 7 ∧ j < q_nf c ∧ q_wd (Cond.fieldLink own idx ((q_T c) j).1 ((q_T c) j).2.1 ((q_T c) j).2.2.1)
/-- .. an int or boolean that is no constant -/
abbrev q_Fw (own : String) (idx c j : Nat) : Prop := q_Fl own idx c j ∧ q_ro c j = none ∧ ((q_T c) j).2.2.2 = false
section q_rules3
variable {k : q_MI} {pc : Nat} {ls : List (Option Value)} {st : List Value} {I : q_Mem} {Q : Option Value → q_Mem → Prop}
theorem q_getI {idx c j a : Nat} {v : Int32} (hf : q_Fl k.1.cls idx c j) (hr : q_ro c j = none) (ha : q_kd a = c) (hv : I a j = v) (hd : decode k.2.1 pc = .ok (.getfield idx, 3)) (kk : q_X k (pc + 3) ls (.int v :: st) I Q) : q_X k pc ls (.ref a :: st) I Q := by
  intro ω p l e R s m args below meth c0 cells slots QZ hC hR H locs LS hL hP hS
  subst hv
  have hlt := q_kd_lt ha (by omega)
  refine va_get (v := .int (I a j)) hC.1 hC.2.1 hC.2.2.2.2.1 (q_wsin c hf.1) hC.2.2.2.1 hC.2.2.2.2.2.1 hP a ((q_P_get hlt).trans (by rw [q_cell_obj ha hf.1])) (q_vc c hf.1) j hf.2.1 (hC.2.2.2.2.1 _ (q_in hf.2.2.1 hf.2.2.2)) (fun _ h9 => h9) ?_ hd (kk ω p l e R s m args below meth c0 cells slots QZ hC hR H locs LS hL hP hS)
  rw [List.getElem?_map, List.getElem?_range hf.2.1]
  simp only [Option.map_some, q_fv, ha, hr]
theorem q_getR {idx c j a d : Nat} (hf : q_Fl k.1.cls idx c j) (hr : q_ro c j = some d) (ha : q_kd a = c) (hd : decode k.2.1 pc = .ok (.getfield idx, 3)) (kk : q_X k (pc + 3) ls (.ref (a + d) :: st) I Q) : q_X k pc ls (.ref a :: st) I Q := by
  intro ω p l e R s m args below meth c0 cells slots QZ hC hR H locs LS hL hP hS
  have hlt := q_kd_lt ha (by omega)
  refine va_get (v := .ref (q_ad ω (a + d))) hC.1 hC.2.1 hC.2.2.2.2.1 (q_wsin c hf.1) hC.2.2.2.1 hC.2.2.2.2.2.1 hP a ((q_P_get hlt).trans (by rw [q_cell_obj ha hf.1])) (q_vc c hf.1) j hf.2.1 (hC.2.2.2.2.1 _ (q_in hf.2.2.1 hf.2.2.2)) (fun _ h9 => h9) ?_ hd (kk ω p l e R s m args below meth c0 cells slots QZ hC hR H locs LS hL hP hS)
  rw [List.getElem?_map, List.getElem?_range hf.2.1]
  simp only [Option.map_some, q_fv, ha, hr]
theorem q_putI {idx c j a : Nat} {x : Int32} (hf : q_Fw k.1.cls idx c j) (ha : q_kd a = c) (hn : narrow (q_ty c j) (.int x) = .int x ∧ fits (q_ty c j) (.int x) = true) (hd : decode k.2.1 pc = .ok (.putfield idx, 3)) (kk : q_X k (pc + 3) ls st (q_up I a j x) Q) : q_X k pc ls (.int x :: .ref a :: st) I Q := by
  intro ω p l e R s m args below meth c0 cells slots QZ hC hR H locs LS hL hP hS
  obtain ⟨⟨h7, hj, hl⟩, hro, hfin⟩ := hf
  have hlt := q_kd_lt ha (by omega)
  refine va_put (v := .int x) hC.1 hC.2.1 hC.2.2.2.2.1 (q_wsin c h7) (q_ty c) (q_tyok c h7) (q_nm c h7) hC.2.2.2.1 hC.2.2.2.2.2.1 hP (q_vD hC.2.2.2.2.2.2.1) hS a ((q_P_get hlt).trans (by rw [q_cell_obj ha h7])) (q_vc c h7) j hj (hC.2.2.2.2.1 _ (q_in hl.1 hl.2)) (fun _ h9 => h9) hfin (q_tyok c h7 j hj) hn.1 hn.2 (by simpa using hj) hd (fun H1 locs1 hP1 hD1 hS1 => ?_)
  rw [q_setI ha h7 hro] at hP1
  exact kk ω p l e R s m args below meth c0 cells slots QZ hC hR H1 locs1 LS hL hP1 hS1
theorem q_tysI (ω : q_Om) : (q_tys ω)[0]? = some (q_ca ω 10, .int) := rfl
theorem q_alen {a c : Nat} {v : Int32} (ha : q_kd a = c) (h10 : 10 ≤ c) (h14 : c < 15) (hv : nI (q_ln a) = v) (hd : decode k.2.1 pc = .ok (.arraylength, 1)) (kk : q_X k (pc + 1) ls (.int v :: st) I Q) : q_X k pc ls (.ref a :: st) I Q := by
  intro ω p l e R s m args below meth c0 cells slots QZ hC hR H locs LS hL hP hS
  have hlt := q_kd_lt ha (by omega)
  have kk := kk ω p l e R s m args below meth c0 cells slots QZ hC hR H locs LS hL hP hS
  have hg := q_P_get (ω := ω) (I := I) hlt
  have hc : c = 10 ∨ c = 11 ∨ c = 12 ∨ c = 13 ∨ c = 14 := by omega
  rcases hc with rfl | rfl | rfl | rfl | rfl
  · exact va_alen (x := (q_ln a, .inl (I a))) hC.1 hC.2.1 hC.2.2.2.2.2.1 hP a 0 (hg.trans (by rw [q_cell_arr ha (by omega) (by omega)])) rfl hv hd kk
  · exact va_alen (x := (q_ln a, .inl (I a))) hC.1 hC.2.1 hC.2.2.2.2.2.1 hP a 1 (hg.trans (by rw [q_cell_arr ha (by omega) (by omega)])) rfl hv hd kk
  · exact va_alen (x := (q_ln a, .inr (.inr (.inr (.inr (fun i => some (q_ad ω (q_el 12 a i)))))))) hC.1 hC.2.1 hC.2.2.2.2.2.1 hP a 2 (hg.trans (by rw [q_cell_ref ha (by omega)])) rfl hv hd kk
  · exact va_alen (x := (q_ln a, .inr (.inr (.inr (.inr (fun i => some (q_ad ω (q_el 13 a i)))))))) hC.1 hC.2.1 hC.2.2.2.2.2.1 hP a 3 (hg.trans (by rw [q_cell_ref ha (by omega)])) rfl hv hd kk
  · exact va_alen (x := (q_ln a, .inr (.inr (.inr (.inr (fun i => some (q_ad ω (q_el 14 a i)))))))) hC.1 hC.2.1 hC.2.2.2.2.2.1 hP a 4 (hg.trans (by rw [q_cell_ref ha (by omega)])) rfl hv hd kk
theorem q_iald {a i : Nat} {x v : Int32} (ha : q_kd a = 10) (hx : x = nI i) (hi : i < q_ln a) (hb : q_ln a < 2 ^ 31) (hv : I a i = v) (hd : decode k.2.1 pc = .ok (.iaload, 1)) (kk : q_X k (pc + 1) ls (.int v :: st) I Q) : q_X k pc ls (.int x :: .ref a :: st) I Q := by
  intro ω p l e R s m args below meth c0 cells slots QZ hC hR H locs LS hL hP hS
  subst hx; subst hv
  have kk := kk ω p l e R s m args below meth c0 cells slots QZ hC hR H locs LS hL hP hS
  refine va_iald hC.1 hC.2.1 hC.2.2.2.2.2.1 hP a 0 ((q_P_get (q_kd_lt ha (by omega))).trans (by rw [q_cell_arr ha (by omega) (by omega)])) rfl (vp_in_nI hi hb) hd ?_
  rw [nI_clamp (Nat.lt_trans hi hb)]
  exact kk
theorem q_cald {a i : Nat} {x v : Int32} (ha : q_kd a = 11) (hx : x = nI i) (hi : i < q_ln a) (hb : q_ln a < 2 ^ 31) (hv : I a i = v) (hd : decode k.2.1 pc = .ok (.caload, 1)) (kk : q_X k (pc + 1) ls (.int v :: st) I Q) : q_X k pc ls (.int x :: .ref a :: st) I Q := by
  intro ω p l e R s m args below meth c0 cells slots QZ hC hR H locs LS hL hP hS
  subst hx; subst hv
  have kk := kk ω p l e R s m args below meth c0 cells slots QZ hC hR H locs LS hL hP hS
  refine va_cald hC.1 hC.2.1 hC.2.2.2.2.2.1 hP a 1 ((q_P_get (q_kd_lt ha (by omega))).trans (by rw [q_cell_arr ha (by omega) (by omega)])) rfl (vp_in_nI hi hb) hd ?_
  rw [nI_clamp (Nat.lt_trans hi hb)]
  exact kk
theorem q_iast {a i : Nat} {x y : Int32} (ha : q_kd a = 10) (hx : x = nI i) (hi : i < q_ln a) (hb : q_ln a < 2 ^ 31) (hd : decode k.2.1 pc = .ok (.iastore, 1)) (kk : q_X k (pc + 1) ls st (q_up I a i y) Q) : q_X k pc ls (.int y :: .int x :: .ref a :: st) I Q := by
  intro ω p l e R s m args below meth c0 cells slots QZ hC hR H locs LS hL hP hS
  subst hx
  refine va_iast hC.1 hC.2.1 hC.2.2.2.2.2.1 hP (q_vD hC.2.2.2.2.2.2.1) hS a 0 ((q_P_get (q_kd_lt ha (by omega))).trans (by rw [q_cell_arr ha (by omega) (by omega)])) rfl (vp_in_nI hi hb) hd (fun H1 locs1 hP1 hD1 hS1 => ?_)
  rw [nI_clamp (Nat.lt_trans hi hb), q_setA ha (by omega) (by omega)] at hP1
  exact kk ω p l e R s m args below meth c0 cells slots QZ hC hR H1 locs1 LS hL hP1 hS1
theorem q_cast {a i : Nat} {x y : Int32} (ha : q_kd a = 11) (hx : x = nI i) (hi : i < q_ln a) (hb : q_ln a < 2 ^ 31) (hn : vp_nar .char y = y) (hd : decode k.2.1 pc = .ok (.castore, 1)) (kk : q_X k (pc + 1) ls st (q_up I a i y) Q) : q_X k pc ls (.int y :: .int x :: .ref a :: st) I Q := by
  intro ω p l e R s m args below meth c0 cells slots QZ hC hR H locs LS hL hP hS
  subst hx
  refine va_cast hC.1 hC.2.1 hC.2.2.2.2.2.1 hP (q_vD hC.2.2.2.2.2.2.1) hS a 1 ((q_P_get (q_kd_lt ha (by omega))).trans (by rw [q_cell_arr ha (by omega) (by omega)])) rfl (vp_in_nI hi hb) hd (fun H1 locs1 hP1 hD1 hS1 => ?_)
  rw [hn, nI_clamp (Nat.lt_trans hi hb), q_setA ha (by omega) (by omega)] at hP1
  exact kk ω p l e R s m args below meth c0 cells slots QZ hC hR H1 locs1 LS hL hP1 hS1
theorem q_aald {a i c : Nat} {x : Int32} (ha : q_kd a = c) (h12 : 12 ≤ c) (h15 : c < 15) (hx : x = nI i) (hi : i < q_ln a) (hb : q_ln a < 2 ^ 31) (hd : decode k.2.1 pc = .ok (.aaload, 1)) (kk : q_X k (pc + 1) ls (.ref (q_el c a i) :: st) I Q) : q_X k pc ls (.int x :: .ref a :: st) I Q := by
  intro ω p l e R s m args below meth c0 cells slots QZ hC hR H locs LS hL hP hS
  subst hx
  have kk := kk ω p l e R s m args below meth c0 cells slots QZ hC hR H locs LS hL hP hS
  have hg := (q_P_get (ω := ω) (I := I) (q_kd_lt ha (by omega))).trans (by rw [q_cell_ref ha h12])
  have hn := nI_clamp (Nat.lt_trans hi hb)
  have hc : c = 12 ∨ c = 13 ∨ c = 14 := by omega
  rcases hc with rfl | rfl | rfl
  · refine va_aldq hC.1 hC.2.1 hC.2.2.2.2.2.1 hP a 2 hg rfl (vp_in_nI hi hb) hd ?_
    rw [hn]; exact kk
  · refine va_aldq hC.1 hC.2.1 hC.2.2.2.2.2.1 hP a 3 hg rfl (vp_in_nI hi hb) hd ?_
    rw [hn]; exact kk
  · refine va_aldq hC.1 hC.2.1 hC.2.2.2.2.2.1 hP a 4 hg rfl (vp_in_nI hi hb) hd ?_
    rw [hn]; exact kk
end q_rules3
end
section
/-! THE X LAYER: calls, a contract out of a body -/
/-- the receiver's class -/
def q_rc (C : String) (b : Nat) : Prop := (∃ c, c < 7 ∧ q_kd b = c ∧ q_C c = C) ∨ (C = "java/lang/String" ∧ ∃ i, i < 5 ∧ b = 368 + i)
/-- the callee's room within the caller's -/
abbrev q_fit (kc k : q_MI) : Prop := kc.2.2.2.2.1 + 1 ≤ k.2.2.2.2.1 ∧ 8 + (kc.2.2.1 + 11) + kc.2.2.2.2.2 ≤ k.2.2.2.2.2
theorem q_ar {y : MethodName} {n : Nat} (h : (parseMethodDescriptor y.desc).map (fun d => d.parameters.length) = some n) : ∀ sig, parseMethodDescriptor y.desc = some sig → n = sig.parameters.length := by
  intro sig hs
  rw [hs] at h
  exact (Option.some.inj h).symm
theorem q_gws {kc : q_MI} (h : q_wd (.code kc.1 kc.2.1 kc.2.2.1 kc.2.2.2.1)) : GoodIn q_gw (q_ws kc) := by
  intro w hw
  rcases List.mem_cons.mp hw with rfl | hw
  · exact ⟨q_in h.1 h.2, good_of_word h.2⟩
  · exact q_good2 w hw
section q_calls
variable {p : Program} {l : Launch} {e : Env} {R : Room} {s : State} {m : MethodId} {args : Array Value} {below : List Frame} {meth : Method} {c : Code} {H : Heap} {locs : List Loc} {cells slots : Nat} {QZ : State → Prop} {ω : q_Om}
theorem q_recv {C : String} {b : Nat} {I : q_Mem} (h : q_rc C b) (hK : va_K (q_D ω) vwCl (q_tys ω) s) (hP : va_P (q_D ω) vwCl (q_P ω I) H) (hO : q_Od ω s s.heap) (hS : va_S (q_A ω) s.heap H locs) : ∃ cell : Cell, H[q_ad ω b]? = some cell ∧ cell.vm.isStatics = false ∧ s.vm.findClass C = some cell.cls := by
  rcases h with ⟨c, h7, hk, rfl⟩ | ⟨rfl, i, hi, rfl⟩
  · exact va_recv hK hP (q_vc c h7) (q0 := b) ((q_P_get (q_kd_lt hk (by omega))).trans (by rw [q_cell_obj hk h7]))
  · exact vk_recv (i := i) (adK := fun i => q_ad ω (368 + i)) hO.2.2.2.2.1 hi hS
theorem q_blind {as : List Value} {I : q_Mem} : FrameBlind (q_Pc ω as I) := by
  intro a U g mk h
  obtain ⟨h1, h2, h3, h4, h5⟩ := h
  exact ⟨h1, h2, va_K.moved (u := U) (U := U.calling g mk a) (Vm.Alike.refl U.vm) h3, h4, q_Od.moved (u := U) (U := U.calling g mk a) (Vm.Alike.refl U.vm) (q_Nt.same (s := U) rfl h5.2.2.2.2.2.2.2.2) h5⟩
theorem q_goOn {pc : Nat} {LS : Array Slot} {st0 rest : List Value} {a : Array Value} {Qc : Option Value → q_Mem → Prop} (hr : va_Run p l e R s m args below meth c H locs cells slots 0 0 (F0 m pc LS st0) rest (q_Qc ω Qc a) (q_A ω)) (hS : va_S (q_A ω) s.heap H locs)
    (kk : ∀ (v : Option Value) (J : q_Mem) (H1 : Heap) (locs1 : List Loc), Qc v J → va_P (q_D ω) vwCl (q_P ω J) H1 → va_S (q_A ω) s.heap H1 locs1 → W p l e R s m args below meth c H1 locs1 cells slots QZ (F0 m (pc + 3) LS (v.toList.map (q_cv ω) ++ rest))) : W p l e R s m args below meth c H locs cells slots QZ (F0 m pc LS st0) := by
  intro T hT X
  obtain ⟨v, st₀, t, T', L, h0, X', hL, e1, e2, ⟨⟨v', J, hv, hp, hb⟩, hz, hk⟩, st⟩ := hr T hT X
  cases hv
  rw [h0] at hz hk
  obtain ⟨t2, a1, b1⟩ := kk v' J T'.heap (locs ++ L) hp (by rw [e1]; exact hb) ⟨Nat.le_trans hS.1 (by rw [e1]; exact hz), fun q h1 h2 => by rw [e1, hk q (Nat.lt_of_lt_of_le h1 hS.1) h2]; exact hS.2.1 q h1 h2, fun q hq => by
      rcases List.mem_append.mp hq with h | h
      · exact hS.2.2 q h
      · exact hL q h⟩ T' rfl X'
  have e9 : (v'.map (q_cv ω)).toList = v'.toList.map (q_cv ω) := by cases v' <;> rfl
  rw [← e9] at a1
  exact ⟨t2, st t2 a1, b1⟩
theorem q_pre {as : List Value} {I : q_Mem} (hK : va_K (q_D ω) vwCl (q_tys ω) s) (hP : va_P (q_D ω) vwCl (q_P ω I) H) (hD : va_D (q_A ω) (q_P ω (fun _ _ => 0))) (hO : q_Od ω s s.heap) (hS : va_S (q_A ω) s.heap H locs) : ∀ U : State, U.heap = H → s.WarmedH U.vm → q_Pc ω as I (as.map (q_cv ω)).toArray U := by
  intro U hU hW
  exact ⟨rfl, by rw [hU]; exact hP, va_K.moved hW.alike hK, q_vD hD, by rw [hU]; exact q_Od.moved hW.alike (q_Nt.warm hW hO.2.2.2.2.2.2.2.2) (hO.kept hS.1 hS.2.1)⟩
end q_calls
section q_rules4
variable {k : q_MI} {pc : Nat} {ls : List (Option Value)} {st : List Value} {I : q_Mem} {Q : Option Value → q_Mem → Prop}
theorem q_cV {kc : q_MI} {as : List Value} {b idx n : Nat} {Qc : Option Value → q_Mem → Prop} (hl : q_lkV k.1.cls idx kc n) (hm : q_M kc (.ref b :: as) I Qc) (hrc : q_rc kc.1.cls b) (hn : as.length = n) (hf : q_fit kc k) (hst : (st.map fun v => v.category).sum ≤ 8) (hd : decode k.2.1 pc = .ok (.invokevirtual idx, 3)) (kk : ∀ v J, Qc v J → q_X k (pc + 3) ls (v.toList ++ st) J Q) : q_X k pc ls (as.reverse ++ .ref b :: st) I Q := by
  intro ω p l e R s m args below meth c cells slots QZ hC hR H locs LS hL hP hS
  obtain ⟨hx, hb, hml, hown, hts, hK, hD, hO, hfr, hlo, hce, hsl⟩ := id hC
  obtain ⟨⟨h1, h2, h3, h4, h5⟩, h6, h7⟩ := hl
  have bf : ∀ {w : Cond}, q_wd w → w.before args s = true := fun h => hts _ (q_in h.1 h.2)
  have hst' : ((st.map (q_cv ω)).map fun v => v.category).sum ≤ 8 := by
    rw [List.map_map]
    have : ((fun v : Value => v.category) ∘ q_cv ω) = fun v => v.category := funext fun v => q_cv_cat ω v
    rw [this]; exact hst
  rw [List.map_append, List.map_reverse, List.map_cons]
  refine q_goOn (Qc := Qc) (rest := st.map (q_cv ω)) (va_runV (As := as.map (q_cv ω)) (b := q_ad ω b) (rest := st.map (q_cv ω)) ⟨hx, hb, hml, hown, hts⟩ (hm ω l)
    ⟨⟨rfl, rfl, Nat.le_trans hf.1 hfr, Nat.le_trans hf.2 hlo, pay_in hts (q_gws h3), List.mem_cons_self, bf h3, bf h2, h4, q_ar h5, bf h1⟩, bf h6, bf h7⟩
    ⟨q_blind, q_recv hrc hK hP hO hS, fun U hU hW => q_pre hK hP hD hO hS U hU hW⟩ rfl (by simpa using hn) hL.1 rfl (lv_room hst') hd ⟨hce, hsl⟩) hS (fun v J H1 locs1 hq hP1 hS1 => ?_)
  have := kk v J hq ω p l e R s m args below meth c cells slots QZ hC hR H1 locs1 LS hL hP1 hS1
  rw [List.map_append] at this
  exact this
theorem q_cS {kc : q_MI} {as : List Value} {idx n : Nat} {Qc : Option Value → q_Mem → Prop} (hl : q_lkS k.1.cls idx kc n) (hm : q_M kc as I Qc) (hn : as.length = n) (hf : q_fit kc k) (hst : (st.map fun v => v.category).sum ≤ 8) (hd : decode k.2.1 pc = .ok (.invokestatic idx, 3)) (kk : ∀ v J, Qc v J → q_X k (pc + 3) ls (v.toList ++ st) J Q) : q_X k pc ls (as.reverse ++ st) I Q := by
  intro ω p l e R s m args below meth c cells slots QZ hC hR H locs LS hL hP hS
  obtain ⟨hx, hb, hml, hown, hts, hK, hD, hO, hfr, hlo, hce, hsl⟩ := id hC
  obtain ⟨⟨h1, h2, h3, h4, h5⟩, h6⟩ := hl
  have bf : ∀ {w : Cond}, q_wd w → w.before args s = true := fun h => hts _ (q_in h.1 h.2)
  have hst' : ((st.map (q_cv ω)).map fun v => v.category).sum ≤ 8 := by
    rw [List.map_map]
    have : ((fun v : Value => v.category) ∘ q_cv ω) = fun v => v.category := funext fun v => q_cv_cat ω v
    rw [this]; exact hst
  rw [List.map_append, List.map_reverse]
  refine q_goOn (Qc := Qc) (rest := st.map (q_cv ω)) (va_runS (As := as.map (q_cv ω)) (rest := st.map (q_cv ω)) ⟨hx, hb, hml, hown, hts⟩ (hm ω l)
    ⟨⟨rfl, rfl, Nat.le_trans hf.1 hfr, Nat.le_trans hf.2 hlo, pay_in hts (q_gws h3), List.mem_cons_self, bf h3, bf h2, h4, q_ar h5, bf h1⟩, bf h6⟩
    ⟨q_blind, fun U hU hW => q_pre hK hP hD hO hS U hU hW⟩ rfl (by simpa using hn) hL.1 rfl (lv_room hst') hd ⟨hce, hsl⟩) hS (fun v J H1 locs1 hq hP1 hS1 => ?_)
  have := kk v J hq ω p l e R s m args below meth c cells slots QZ hC hR H1 locs1 LS hL hP1 hS1
  rw [List.map_append] at this
  exact this
theorem q_cN {kc : q_MI} {as : List Value} {idx n : Nat} {host : String} {Qc : Option Value → q_Mem → Prop} (hl : q_lkN kc n) (hnt : ∀ U, q_Nt U → va_Nw (.methodLinkNest k.1.cls idx kc.1 host) U) (hm : q_M kc as I Qc) (hn : as.length = n) (hf : q_fit kc k) (hst : (st.map fun v => v.category).sum ≤ 8) (hd : decode k.2.1 pc = .ok (.invokestatic idx, 3)) (kk : ∀ v J, Qc v J → q_X k (pc + 3) ls (v.toList ++ st) J Q) : q_X k pc ls (as.reverse ++ st) I Q := by
  intro ω p l e R s m args below meth c cells slots QZ hC hR H locs LS hL hP hS
  obtain ⟨hx, hb, hml, hown, hts, hK, hD, hO, hfr, hlo, hce, hsl⟩ := id hC
  obtain ⟨h2, h3, h4, h5, h6⟩ := hl
  have bf : ∀ {w : Cond}, q_wd w → w.before args s = true := fun h => hts _ (q_in h.1 h.2)
  have hst' : ((st.map (q_cv ω)).map fun v => v.category).sum ≤ 8 := by
    rw [List.map_map]
    have : ((fun v : Value => v.category) ∘ q_cv ω) = fun v => v.category := funext fun v => q_cv_cat ω v
    rw [this]; exact hst
  rw [List.map_append, List.map_reverse]
  refine q_goOn (Qc := Qc) (rest := st.map (q_cv ω)) (va_runSN (As := as.map (q_cv ω)) (rest := st.map (q_cv ω)) (host := host) ⟨hx, hb, hml, hown, hts⟩ (hm ω l)
    ⟨⟨⟨rfl, rfl, Nat.le_trans hf.1 hfr, Nat.le_trans hf.2 hlo, pay_in hts (q_gws h3), List.mem_cons_self⟩, bf h3, bf h2, h4, q_ar h5, va_Nw.use rfl (hnt s hO.2.2.2.2.2.2.2.2)⟩, bf h6, trivial⟩
    ⟨q_blind, fun U hU hW => q_pre hK hP hD hO hS U hU hW⟩ rfl (by simpa using hn) hL.1 rfl (lv_room hst') hd ⟨hce, hsl⟩) hS (fun v J H1 locs1 hq hP1 hS1 => ?_)
  have := kk v J hq ω p l e R s m args below meth c cells slots QZ hC hR H1 locs1 LS hL hP1 hS1
  rw [List.map_append] at this
  exact this
end q_rules4
theorem q_M.of {k : q_MI} {as : List Value} {I : q_Mem} {Q : Option Value → q_Mem → Prop} (hy : plainName k.1.cls = true) (hcat : ∀ v ∈ as, v.category = 1) (hlen : as.length ≤ k.2.2.1) (hX : q_X k 0 (as.map some ++ List.replicate (k.2.2.1 - as.length) none) [] I Q) : q_M k as I Q := by
  intro ω l
  refine Met.ofW (cc := k.2.1) (maxL := k.2.2.1) (ret := k.2.2.2.1) hy rfl ?_
  intro p e s m args below meth c s₁ B hml hv
  obtain ⟨rfl, hP, hK, hD, hO⟩ := hv
  have hx := B.exec
  have hb := B.bytes
  have hr := B.returns
  have hts := atoms_spec (ws := q_ws k) B.pre
  have hown : s.vm.findClass k.1.cls = some m.cls := findClass_of_methodNamed B.named
  have hcat' : ∀ v ∈ as.map (q_cv ω), v.category = 1 := by
    intro v hv
    obtain ⟨w, hw, rfl⟩ := List.mem_map.mp hv
    rw [q_cv_cat]; exact hcat w hw
  rw [entry_eq m (as.map (q_cv ω)) hcat' k.2.2.1]
  refine hX ω p l e _ s m _ below meth c 0 0 _ ⟨hx, hb, ?_, hown, fun w hw => hts w (List.mem_cons_of_mem _ hw), hK, q_vD hD, hO, Nat.le_refl _, Nat.le_refl _, Nat.le_refl _, Nat.le_refl _⟩ ?_ s.heap [] _ ?_ hP va_S.rf
  · rw [hml]
    simp only [List.length_append, List.length_map, List.length_replicate]
    omega
  · intro pc' LS' H' locs' v J hRt hQ hP' hS'
    rcases hRt with ⟨rfl, hr0, hd⟩ | ⟨x, ty, rfl, hr0, hn, hd⟩ | ⟨n, hr0, hv, hd⟩
    · exact W.vret hx hb (hr.trans hr0) (fun t ht hW => ⟨⟨none, J, rfl, hQ, by rw [ht]; exact hP'⟩, hS'.F ht⟩) hS'.2.2 hd
    · exact W.zret hx hb (hr.trans hr0) hn (fun t ht hW => ⟨⟨some (.int x), J, rfl, hQ, by rw [ht]; exact hP'⟩, hS'.F ht⟩) hS'.2.2 hd
    · rcases hv with rfl | ⟨a, rfl⟩
      · exact W.aret (v := .null) hx hb (hr.trans hr0) (Or.inl ⟨n, rfl⟩) (Or.inl rfl) (fun t ht hW => ⟨⟨some .null, J, rfl, hQ, by rw [ht]; exact hP'⟩, hS'.F ht⟩) hS'.2.2 hd
      · exact W.aret (v := .ref (q_ad ω a)) hx hb (hr.trans hr0) (Or.inl ⟨n, rfl⟩) (Or.inr ⟨_, rfl⟩) (fun t ht hW => ⟨⟨some (.ref a), J, rfl, hQ, by rw [ht]; exact hP'⟩, hS'.F ht⟩) hS'.2.2 hd
  · refine ⟨by simp, ⟨fun i v hi hc2 => ?_, fun i hi => ?_⟩, fun i v hi => ?_⟩
    · simp only [List.getElem?_toArray] at hi
      have hm := List.mem_of_getElem? hi
      rcases List.mem_append.mp hm with h | h
      · obtain ⟨w, hw, he⟩ := List.mem_map.mp h
        cases he
        rw [hcat' _ hw] at hc2
        cases hc2
      · cases List.eq_of_mem_replicate h
    · simp only [List.getElem?_toArray] at hi
      have hm := List.mem_of_getElem? hi
      rcases List.mem_append.mp hm with h | h
      · obtain ⟨w, hw, he⟩ := List.mem_map.mp h
        cases he
      · cases List.eq_of_mem_replicate h
    · have hil : i < as.length := by
        rcases Nat.lt_or_ge i as.length with q | q
        · exact q
        · rw [List.getElem?_append_right (by simpa using q)] at hi
          cases List.eq_of_mem_replicate (List.mem_of_getElem? hi)
      rw [List.getElem?_append_left (by simpa using hil), List.getElem?_map] at hi
      cases ha : as[i]? with
      | none => rw [ha] at hi; cases hi
      | some w =>
        rw [ha] at hi
        cases hi
        refine ⟨hcat _ (List.mem_of_getElem? ha), ?_⟩
        simp only [List.getElem?_toArray]
        rw [List.getElem?_append_left (by simpa using hil), List.getElem?_map, List.getElem?_map, ha]
        rfl
theorem q_M.mono {k : q_MI} {as : List Value} {I : q_Mem} {Q Q' : Option Value → q_Mem → Prop} (h : q_M k as I Q) (hq : ∀ v J, Q v J → Q' v J) : q_M k as I Q' := by
  intro ω l
  have h1 := h ω l
  intro p e ha hc hk s m args below hf hpre hP hK
  obtain ⟨n, o, g1, g2, g3, ⟨⟨v, J, e1, e2, e3⟩, e4⟩, e5⟩ := h1 p e ha hc hk s m args below hf hpre hP hK
  exact ⟨n, o, g1, g2, g3, ⟨⟨v, J, e1, hq v J e2, e3⟩, e4⟩, e5⟩
end
section
/-! THE X LAYER: what was there before the run, and the natives -/
section q_rules5
variable {k : q_MI} {pc : Nat} {ls : List (Option Value)} {st : List Value} {I : q_Mem} {Q : Option Value → q_Mem → Prop}
abbrev q_flw (own : String) (idx : Nat) (C n d : String) : Prop := q_wd (.fieldLink own idx C n d)
theorem q_words {idx : Nat} {host : String} (hf : ∀ U, q_Nt U → va_Nw (.fieldLinkNest k.1.cls idx "EveningClasses" "WORDS" "[LEveningClasses$Word;" host) U) (hd : decode k.2.1 pc = .ok (.getstatic idx, 3)) (kk : q_X k (pc + 3) ls (.ref 362 :: st) I Q) : q_X k pc ls st I Q := by
  intro ω p l e R s m args below meth c cells slots QZ hC hR H locs LS hL hP hS
  have hO : q_Od ω s s.heap := hC.2.2.2.2.2.2.2.1
  exact va_getsN hC.1 hC.2.1 hO.1 hS hC.2.2.2.1 (va_Nw.use rfl (hf s hO.2.2.2.2.2.2.2.2)) (fun _ h => h) hd (kk ω p l e R s m args below meth c cells slots QZ hC hR H locs LS hL hP hS)
theorem q_word {idx i : Nat} (hi : i < 5) (hf : q_flw k.1.cls idx "EveningClasses$Word" (q_EN.getD i "") "LEveningClasses$Word;") (hd : decode k.2.1 pc = .ok (.getstatic idx, 3)) (kk : q_X k (pc + 3) ls (.ref (363 + i) :: st) I Q) : q_X k pc ls st I Q := by
  intro ω p l e R s m args below meth c cells slots QZ hC hR H locs LS hL hP hS
  have hO : q_Od ω s s.heap := hC.2.2.2.2.2.2.2.1
  exact va_gets hC.1 hC.2.1 (hO.2.2.1.1 i hi).1 hS hC.2.2.2.1 (hC.2.2.2.2.1 _ (q_in hf.1 hf.2)) (fun _ h => h) hd (kk ω p l e R s m args below meth c cells slots QZ hC hR H locs LS hL hP hS)
theorem q_wlen {v : Int32} (hv : nI 5 = v) (hd : decode k.2.1 pc = .ok (.arraylength, 1)) (kk : q_X k (pc + 1) ls (.int v :: st) I Q) : q_X k pc ls (.ref 362 :: st) I Q := by
  intro ω p l e R s m args below meth c cells slots QZ hC hR H locs LS hL hP hS
  have hO : q_Od ω s s.heap := hC.2.2.2.2.2.2.2.1
  exact va_tlen hC.1 hC.2.1 hO.2.1 hS hv hd (kk ω p l e R s m args below meth c cells slots QZ hC hR H locs LS hL hP hS)
theorem q_wald {i : Nat} {x : Int32} (hx : x = nI i) (hi : i < 5) (hd : decode k.2.1 pc = .ok (.aaload, 1)) (kk : q_X k (pc + 1) ls (.ref (363 + i) :: st) I Q) : q_X k pc ls (.int x :: .ref 362 :: st) I Q := by
  intro ω p l e R s m args below meth c cells slots QZ hC hR H locs LS hL hP hS
  subst hx
  have hO : q_Od ω s s.heap := hC.2.2.2.2.2.2.2.1
  exact vb_tq hC.1 hC.2.1 hO.2.1 hS (vp_in_nI hi (by omega)) (v := .ref (q_ad ω (363 + i))) (by rw [nI_clamp (by omega)]) hd (kk ω p l e R s m args below meth c cells slots QZ hC hR H locs LS hL hP hS)
theorem q_wletters {idx i : Nat} (hi : i < 5) (hf : q_flw k.1.cls idx "EveningClasses$Word" "letters" "Ljava/lang/String;") (hd : decode k.2.1 pc = .ok (.getfield idx, 3)) (kk : q_X k (pc + 3) ls (.ref (368 + i) :: st) I Q) : q_X k pc ls (.ref (363 + i) :: st) I Q := by
  intro ω p l e R s m args below meth c cells slots QZ hC hR H locs LS hL hP hS
  have hO : q_Od ω s s.heap := hC.2.2.2.2.2.2.2.1
  exact vk_getf hC.1 hC.2.1 (hO.2.2.2.1 i hi) hS hC.2.2.2.1 (hC.2.2.2.2.1 _ (q_in hf.1 hf.2)) (fun _ h => h) hd (kk ω p l e R s m args below meth c cells slots QZ hC hR H locs LS hL hP hS)
theorem q_wint {idx i : Nat} {fn : String} {vs : List Int32} {v : Int32} (hi : i < 5) (hm : ("EveningClasses$Word", fn, "I", vs) ∈ q_EF) (hv : vs.getD i 0 = v) (hf : q_flw k.1.cls idx "EveningClasses$Word" fn "I") (hd : decode k.2.1 pc = .ok (.getfield idx, 3)) (kk : q_X k (pc + 3) ls (.int v :: st) I Q) : q_X k pc ls (.ref (363 + i) :: st) I Q := by
  intro ω p l e R s m args below meth c cells slots QZ hC hR H locs LS hL hP hS
  subst hv
  have hO : q_Od ω s s.heap := hC.2.2.2.2.2.2.2.1
  exact va_getE (nm := q_EN) (i := i) (ad := fun i => q_ad ω (363 + i)) hC.1 hC.2.1 hO.2.2.1 hi hS hC.2.2.2.1 hm (hC.2.2.2.2.1 _ (q_in hf.1 hf.2)) (fun _ h => h) hd (kk ω p l e R s m args below meth c cells slots QZ hC hR H locs LS hL hP hS)
theorem q_acmp_ne {i j : Nat} {off : Int} {tgt : Nat} (hi : i < 5) (hj : j < 5) (hd : decode k.2.1 pc = .ok (.if_acmp .ne off, 3)) (ht : (pc : Int) + off = (tgt : Int)) (kt : ¬ i = j → q_X k tgt ls st I Q) (kf : i = j → q_X k (pc + 3) ls st I Q) : q_X k pc ls (.ref (363 + j) :: .ref (363 + i) :: st) I Q := by
  intro ω p l e R s m args below meth c cells slots QZ hC hR H locs LS hL hP hS
  have hO : q_Od ω s s.heap := hC.2.2.2.2.2.2.2.1
  refine lv_acmp_ne (rx := some (q_ad ω (363 + i))) (ry := some (q_ad ω (363 + j))) hC.1 hC.2.1 hd ht (fun q => kt ?_ ω p l e R s m args below meth c cells slots QZ hC hR H locs LS hL hP hS) (fun q => kf ?_ ω p l e R s m args below meth c cells slots QZ hC hR H locs LS hL hP hS)
  · intro h
    exact q (by rw [h])
  · exact hO.2.2.1.2 i j hi hj (Option.some.inj q)
theorem q_svalue {idx i : Nat} (hi : i < 5) (hf : q_flw k.1.cls idx "java/lang/String" "value" "[B") (hd : decode k.2.1 pc = .ok (.getfield idx, 3)) (kk : q_X k (pc + 3) ls (.ref (373 + i) :: st) I Q) : q_X k pc ls (.ref (368 + i) :: st) I Q := by
  intro ω p l e R s m args below meth c cells slots QZ hC hR H locs LS hL hP hS
  have hO : q_Od ω s s.heap := hC.2.2.2.2.2.2.2.1
  exact vk_getf hC.1 hC.2.1 (hO.2.2.2.2.1.1 i hi).2.2.1 hS hC.2.2.2.1 (hC.2.2.2.2.1 _ (q_in hf.1 hf.2)) (fun _ h => h) hd (kk ω p l e R s m args below meth c cells slots QZ hC hR H locs LS hL hP hS)
theorem q_scoder {idx i : Nat} (hi : i < 5) (hf : q_flw k.1.cls idx "java/lang/String" "coder" "B") (hd : decode k.2.1 pc = .ok (.getfield idx, 3)) (kk : q_X k (pc + 3) ls (.int 0 :: st) I Q) : q_X k pc ls (.ref (368 + i) :: st) I Q := by
  intro ω p l e R s m args below meth c cells slots QZ hC hR H locs LS hL hP hS
  have hO : q_Od ω s s.heap := hC.2.2.2.2.2.2.2.1
  exact vk_getf hC.1 hC.2.1 (hO.2.2.2.2.1.1 i hi).2.1 hS hC.2.2.2.1 (hC.2.2.2.2.1 _ (q_in hf.1 hf.2)) (fun _ h => h) hd (kk ω p l e R s m args below meth c cells slots QZ hC hR H locs LS hL hP hS)
theorem q_slen {i : Nat} {v : Int32} (hi : i < 5) (hv : nI (q_lens.getD i 0) = v) (hd : decode k.2.1 pc = .ok (.arraylength, 1)) (kk : q_X k (pc + 1) ls (.int v :: st) I Q) : q_X k pc ls (.ref (373 + i) :: st) I Q := by
  intro ω p l e R s m args below meth c cells slots QZ hC hR H locs LS hL hP hS
  have hO : q_Od ω s s.heap := hC.2.2.2.2.2.2.2.1
  exact va_tlen hC.1 hC.2.1 (hO.2.2.2.2.1.1 i hi).2.2.2 hS hv hd (kk ω p l e R s m args below meth c cells slots QZ hC hR H locs LS hL hP hS)
theorem q_sald {i j : Nat} {x v : Int32} (hi : i < 5) (hx : x = nI j) (hj : j < q_lens.getD i 0) (hv : (q_byts.getD i []).getD j 0 = v) (hd : decode k.2.1 pc = .ok (.baload, 1)) (kk : q_X k (pc + 1) ls (.int v :: st) I Q) : q_X k pc ls (.int x :: .ref (373 + i) :: st) I Q := by
  intro ω p l e R s m args below meth c cells slots QZ hC hR H locs LS hL hP hS
  subst hx; subst hv
  have hO : q_Od ω s s.heap := hC.2.2.2.2.2.2.2.1
  have hb : q_lens.getD i 0 < 2 ^ 31 := by
    have : ∀ i, i < 5 → q_lens.getD i 0 < 2 ^ 31 := by decide
    exact this i hi
  exact va_tb hC.1 hC.2.1 (hO.2.2.2.2.1.1 i hi).2.2.2 hS (vp_in_nI hj hb) (v := .int ((q_byts.getD i []).getD j 0)) (by rw [nI_clamp (by omega)]) hd (kk ω p l e R s m args below meth c cells slots QZ hC hR H locs LS hL hP hS)
theorem q_compact {idx : Nat} (hf : q_flw k.1.cls idx "java/lang/String" "COMPACT_STRINGS" "Z") (hd : decode k.2.1 pc = .ok (.getstatic idx, 3)) (kk : q_X k (pc + 3) ls (.int 1 :: st) I Q) : q_X k pc ls st I Q := by
  intro ω p l e R s m args below meth c cells slots QZ hC hR H locs LS hL hP hS
  have hO : q_Od ω s s.heap := hC.2.2.2.2.2.2.2.1
  exact va_gets hC.1 hC.2.1 hO.2.2.2.2.2.1 hS hC.2.2.2.1 (hC.2.2.2.2.1 _ (q_in hf.1 hf.2)) (fun _ h => h) hd (kk ω p l e R s m args below meth c cells slots QZ hC hR H locs LS hL hP hS)
theorem q_sioobe {idx : Nat} (hf : q_flw k.1.cls idx "jdk/internal/util/Preconditions" "SIOOBE_FORMATTER" "Ljava/util/function/BiFunction;") (hd : decode k.2.1 pc = .ok (.getstatic idx, 3)) (kN : q_X k (pc + 3) ls (.null :: st) I Q) (kR : q_X k (pc + 3) ls (.ref 381 :: st) I Q) : q_X k pc ls st I Q := by
  intro ω p l e R s m args below meth c cells slots QZ hC hR H locs LS hL hP hS
  have hO : q_Od ω s s.heap := hC.2.2.2.2.2.2.2.1
  rcases hO.2.2.2.2.2.2.1 with h | h
  · exact va_gets hC.1 hC.2.1 h hS hC.2.2.2.1 (hC.2.2.2.2.1 _ (q_in hf.1 hf.2)) (fun _ h => h) hd (kN ω p l e R s m args below meth c cells slots QZ hC hR H locs LS hL hP hS)
  · exact va_gets hC.1 hC.2.1 h hS hC.2.2.2.1 (hC.2.2.2.2.1 _ (q_in hf.1 hf.2)) (fun _ h => h) hd (kR ω p l e R s m args below meth c cells slots QZ hC hR H locs LS hL hP hS)
/-- the native copy of a row of ints, from its beginning on -/
theorem q_copy {idx a b n : Nat} (hl : q_wd (.methodLink k.1.cls idx arraycopyName) ∧ q_wd (.native arraycopyName) ∧ q_wd (.static arraycopyName) ∧ q_wd (.initialized "java/lang/System")) (ha : q_kd a = 10) (hb : q_kd b = 10) (hna : n ≤ q_ln a) (hnb : n ≤ q_ln b) (hn : n < 2 ^ 31)
    (hfr : 1 ≤ k.2.2.2.2.1) (hlo : (st.map fun v => v.category).sum + 18 ≤ k.2.2.2.2.2) (hd : decode k.2.1 pc = .ok (.invokestatic idx, 3)) (kk : ∀ J : q_Mem, (∀ i j, J i j = if i = b ∧ j < n then I a j else I i j) → q_X k (pc + 3) ls st J Q) : q_X k pc ls (.int (nI n) :: .int 0 :: .ref b :: .int 0 :: .ref a :: st) I Q := by
  intro ω p l e R s m args below meth c cells slots QZ hC hR H locs LS hL hP hS
  obtain ⟨hx, hbc, hml, hown, hts, hK, hD, hO, hfr', hlo', hce, hsl⟩ := id hC
  have bf : ∀ {w : Cond}, q_wd w → w.before args s = true := fun h => hts _ (q_in h.1 h.2)
  have hst' : ((st.map (q_cv ω)).map fun v => v.category).sum = (st.map fun v => v.category).sum := by
    rw [List.map_map]
    have : ((fun v : Value => v.category) ∘ q_cv ω) = fun v => v.category := funext fun v => q_cv_cat ω v
    rw [this]
  have h0 : (0 : Int32).toNatClampNeg = 0 := by decide
  have hnn : (nI n).toNatClampNeg = n := nI_clamp hn
  refine va_copyi hx hbc (hml.trans hL.1.symm) hown (bf hl.1) (bf hl.2.1) (bf hl.2.2.1) (bf hl.2.2.2) hK hP (q_vD hD) hS a b 0 0 ((q_P_get (q_kd_lt ha (by omega))).trans (by rw [q_cell_arr ha (by omega) (by omega)])) ((q_P_get (q_kd_lt hb (by omega))).trans (by rw [q_cell_arr hb (by omega) (by omega)])) rfl rfl rfl (by decide) (by decide) (nI_pos hn) (by rw [h0, hnn]; omega) (by rw [h0, hnn]; omega) (fun _ _ => rfl)
    (Nat.le_trans hfr hfr') (by rw [hst', show nativeFrameWords "java/lang/System" "arraycopy" 5 = 7 by decide]; omega) hd (fun H1 locs1 hP1 hD1 hS1 => ?_)
  rw [h0, hnn] at hP1
  let J : q_Mem := fun i j => if i = b ∧ j < n then I a j else I i j
  have hJ : (q_P ω I).set b (q_ad ω b, .inl (q_ca ω 10, q_ln b, .inl (va_cpy (I a) (I b) 0 0 n))) = q_P ω J := by
    apply List.ext_getElem?
    intro i
    rw [List.getElem?_set]
    by_cases hi : b = i
    · subst hi
      have hl := q_kd_lt hb (by omega)
      rw [if_pos rfl, if_pos (by simpa [q_P] using hl), q_P_get hl, q_cell_arr hb (by omega) (by omega)]
      have : va_cpy (I a) (I b) 0 0 n = J b := by
        funext j
        simp [va_cpy, J]
      rw [this]
    · rw [if_neg hi]
      simp only [q_P, List.getElem?_map]
      by_cases hl : i < 362
      · rw [List.getElem?_range hl]
        simp only [Option.map_some]
        have e : J i = I i := by
          funext j
          exact if_neg (fun h => hi h.1.symm)
        have e2 : q_fv ω J i = q_fv ω I i := by
          funext j
          simp only [q_fv, e]
        have : q_cell ω J i = q_cell ω I i := by
          simp only [q_cell, e, e2]
        rw [this]
      · rw [List.getElem?_eq_none (by simp; omega)]
        rfl
  rw [hJ] at hP1
  exact kk J (fun i j => rfl) ω p l e R s m args below meth c cells slots QZ hC hR H1 locs1 LS hL hP1 hS1
theorem q_mmax {idx : Nat} {x y : Int32} (hl : q_lkM k.1.cls idx Lib.Math.max.name Lib.Math.max.code) (hfr : 1 ≤ k.2.2.2.2.1) (hlo : (st.map fun v => v.category).sum + 13 ≤ k.2.2.2.2.2) (hd : decode k.2.1 pc = .ok (.invokestatic idx, 3)) (kk : q_X k (pc + 3) ls (.int (if x < y then y else x) :: st) I Q) : q_X k pc ls (.int y :: .int x :: st) I Q := by
  intro ω p l e R s m args below meth c cells slots QZ hC hR H locs LS hL hP hS
  have bf : ∀ {w : Cond}, q_wd w → w.before args s = true := fun h => hC.2.2.2.2.1 _ (q_in h.1 h.2)
  have hst' : ((st.map (q_cv ω)).map fun v => v.category).sum = (st.map fun v => v.category).sum := by
    rw [List.map_map]
    have : ((fun v : Value => v.category) ∘ q_cv ω) = fun v => v.category := funext fun v => q_cv_cat ω v
    rw [this]
  exact va_mmax hC.1 hC.2.1 (hC.2.2.1.trans hL.1.symm) hC.2.2.2.1 (bf hl.1) (bf hl.2.1) (bf hl.2.2.1) (bf hl.2.2.2) (Nat.le_trans hfr hC.2.2.2.2.2.2.2.2.1) (by rw [hst']; exact Nat.le_trans hlo hC.2.2.2.2.2.2.2.2.2.1) hC.2.2.2.2.2.2.2.2.2.2.1 hC.2.2.2.2.2.2.2.2.2.2.2 hd (kk ω p l e R s m args below meth c cells slots QZ hC hR H locs LS hL hP hS)
theorem q_mmin {idx : Nat} {x y : Int32} (hl : q_lkM k.1.cls idx Lib.Math.min.name Lib.Math.min.code) (hfr : 1 ≤ k.2.2.2.2.1) (hlo : (st.map fun v => v.category).sum + 13 ≤ k.2.2.2.2.2) (hd : decode k.2.1 pc = .ok (.invokestatic idx, 3)) (kk : q_X k (pc + 3) ls (.int (if y < x then y else x) :: st) I Q) : q_X k pc ls (.int y :: .int x :: st) I Q := by
  intro ω p l e R s m args below meth c cells slots QZ hC hR H locs LS hL hP hS
  have bf : ∀ {w : Cond}, q_wd w → w.before args s = true := fun h => hC.2.2.2.2.1 _ (q_in h.1 h.2)
  have hst' : ((st.map (q_cv ω)).map fun v => v.category).sum = (st.map fun v => v.category).sum := by
    rw [List.map_map]
    have : ((fun v : Value => v.category) ∘ q_cv ω) = fun v => v.category := funext fun v => q_cv_cat ω v
    rw [this]
  exact va_mmin hC.1 hC.2.1 (hC.2.2.1.trans hL.1.symm) hC.2.2.2.1 (bf hl.1) (bf hl.2.1) (bf hl.2.2.1) (bf hl.2.2.2) (Nat.le_trans hfr hC.2.2.2.2.2.2.2.2.1) (by rw [hst']; exact Nat.le_trans hlo hC.2.2.2.2.2.2.2.2.2.1) hC.2.2.2.2.2.2.2.2.2.2.1 hC.2.2.2.2.2.2.2.2.2.2.2 hd (kk ω p l e R s m args below meth c cells slots QZ hC hR H locs LS hL hP hS)
/-- the script -/
theorem q_scr_len {ω : q_Om} {p : Program} {l : Launch} {e : Env} {R : Room} {s : State} {m : MethodId} {args : Array Value} {below : List Frame} {meth : Method} {c : Code} {H : Heap} {locs : List Loc} {cells slots : Nat} {QZ : State → Prop} {cc : ByteArray} {LS : Array Slot} {rest : List Value} (hx : p.tables.exec = Jvm.exec) (hb : c.code = cc) (hO : q_Od ω s s.heap) (hS : va_S (q_A ω) s.heap H locs) (hd : decode cc pc = .ok (.arraylength, 1))
    (kk : W p l e R s m args below meth c H locs cells slots QZ (F0 m (pc + 1) LS (.int (nI (q_L ω)) :: rest))) : W p l e R s m args below meth c H locs cells slots QZ (F0 m pc LS (.ref (q_ad ω 380) :: rest)) :=
  va_slen hx hb hO.2.2.2.2.2.2.2.1.1 hO.2.2.2.2.2.2.2.1.2.1 hO.2.2.2.2.2.2.2.1.2.2 hS hd kk
end q_rules5
end
section
/-! A SEASON, as numbers and lists; how it stands in the class's cells and in the reference's row -/
abbrev q_S : Type := (Nat → Nat) × (Nat → Nat) × (Nat → Nat → Nat) × (Nat → List Nat) × (Nat → Nat → Nat) × (Nat → Nat)
/-- 0 classes, 1 rooms, 2 people: how many -/
abbrev sN (σ : q_S) : Nat → Nat := σ.1
/-- 0 number, 1 closed, 2 paid, 3 paid back, 4 paid in terms that are over, 5 settlings, 6 mergings, 7 cancellings -/
abbrev sG (σ : q_S) : Nat → Nat := σ.2.1
/-- of a class: 0 subject, 1 level, 2 evening, 3 least, 4 most, 5 fee, 6 state + 1, 7 room + 1, 8 into + 1, 9 why -/
abbrev sC (σ : q_S) : Nat → Nat → Nat := σ.2.2.1
/-- its people, in order -/
abbrev sL (σ : q_S) : Nat → List Nat := σ.2.2.2.1
/-- of a person: 0 here, 1 to 3 wishes + 1, 4 class + 1, 5 paid, 6 comings -/
abbrev sP (σ : q_S) : Nat → Nat → Nat := σ.2.2.2.2.1
abbrev sR (σ : q_S) : Nat → Nat := σ.2.2.2.2.2
def f1 {α : Type} (f : Nat → α) (j : Nat) (v : α) : Nat → α := fun i => if i = j then v else f i
def f2 {α : Type} (f : Nat → Nat → α) (c j : Nat) (v : α) : Nat → Nat → α := fun d i => if d = c ∧ i = j then v else f d i
abbrev uN (σ : q_S) (j v : Nat) : q_S := (f1 (sN σ) j v, sG σ, sC σ, sL σ, sP σ, sR σ)
abbrev uG (σ : q_S) (j v : Nat) : q_S := (sN σ, f1 (sG σ) j v, sC σ, sL σ, sP σ, sR σ)
abbrev uC (σ : q_S) (c j v : Nat) : q_S := (sN σ, sG σ, f2 (sC σ) c j v, sL σ, sP σ, sR σ)
abbrev uL (σ : q_S) (c : Nat) (l : List Nat) : q_S := (sN σ, sG σ, sC σ, f1 (sL σ) c l, sP σ, sR σ)
abbrev uP (σ : q_S) (p j v : Nat) : q_S := (sN σ, sG σ, sC σ, sL σ, f2 (sP σ) p j v, sR σ)
abbrev uR (σ : q_S) (r v : Nat) : q_S := (sN σ, sG σ, sC σ, sL σ, sP σ, f1 (sR σ) r v)
theorem f1_s {α : Type} {f : Nat → α} {j : Nat} {v : α} : f1 f j v j = v := if_pos rfl
theorem f1_n {α : Type} {f : Nat → α} {j i : Nat} {v : α} (h : ¬ i = j) : f1 f j v i = f i := if_neg h
theorem f2_s {α : Type} {f : Nat → Nat → α} {c j : Nat} {v : α} : f2 f c j v c j = v := if_pos ⟨rfl, rfl⟩
theorem f2_n {α : Type} {f : Nat → Nat → α} {c j d i : Nat} {v : α} (h : ¬ (d = c ∧ i = j)) : f2 f c j v d i = f d i := if_neg h
/-- a number that may be none -/
def enc (v : Nat) : Int32 := if v = 0 then -1 else nI (v - 1)
theorem enc_0 : enc 0 = -1 := rfl
theorem enc_s (v : Nat) : enc (v + 1) = nI v := rfl
def cenc (j v : Nat) : Int32 := if 6 ≤ j ∧ j ≤ 8 then enc v else nI v
def penc (j v : Nat) : Int32 := if 1 ≤ j ∧ j ≤ 4 then enc v else nI v
def cslot (j : Nat) : Nat := if j < 7 then j + 2 else if j = 7 then 11 else if j = 8 then 10 else 9
def pslot (j : Nat) : Nat := if j = 0 then 1 else if j = 1 then 5 else if j = 2 then 6 else if j = 3 then 7 else if j = 4 then 2 else if j = 5 then 3 else 4
def nslot (j : Nat) : Nat := if j = 0 then 3 else if j = 1 then 5 else 4
def mslot (j : Nat) : Nat := if j = 0 then 0 else if j = 1 then 329 else 335
theorem cslot_inj : ∀ j, j < 10 → ∀ i, i < 10 → cslot i = cslot j → i = j := by decide
theorem pslot_inj : ∀ j, j < 7 → ∀ i, i < 7 → pslot i = pslot j → i = j := by decide
theorem nslot_inj : ∀ j, j < 3 → ∀ i, i < 3 → nslot i = nslot j → i = j := by decide
theorem mslot_inj : ∀ j, j < 3 → ∀ i, i < 3 → mslot i = mslot j → i = j := by decide
theorem cslot_lt : ∀ j, j < 10 → 2 ≤ cslot j ∧ cslot j < 12 := by decide
theorem pslot_lt : ∀ j, j < 7 → 1 ≤ pslot j ∧ pslot j < 8 := by decide
theorem nslot_lt : ∀ j, j < 3 → 3 ≤ nslot j ∧ nslot j < 6 := by decide
/-- the class's season at b -/
def RC (b : Nat) (I : q_Mem) (σ : q_S) : Prop :=
  (∀ j, j < 3 → I b (nslot j) = nI (sN σ j)) ∧ (∀ j, j < 8 → I b (6 + j) = nI (sG σ j)) ∧ (∀ c, c < 8 → ∀ j, j < 10 → I (b + 4 + 2 * c) (cslot j) = cenc j (sC σ c j)) ∧
  (∀ c, c < 8 → I (b + 4 + 2 * c) 12 = nI (sL σ c).length) ∧ (∀ c, c < 8 → ∀ r v, (sL σ c)[r]? = some v → I (b + 5 + 2 * c) r = nI v) ∧
  (∀ p, p < 30 → ∀ j, j < 7 → I (b + 20 + p) (pslot j) = penc j (sP σ p j)) ∧ (∀ r, r < 5 → I (b + 3) r = nI (sR σ r)) ∧
  (∀ c, c < 8 → I (b + 4 + 2 * c) 0 = nI c) ∧ (∀ p, p < 30 → I (b + 20 + p) 0 = nI p)
/-- the reference's season in the row a from the place o on -/
def RM (a o : Nat) (I : q_Mem) (σ : q_S) : Prop :=
  (∀ j, j < 3 → I a (o + mslot j) = nI (sN σ j)) ∧ (∀ j, j < 8 → I a (o + 546 + j) = nI (sG σ j)) ∧ (∀ c, c < sN σ 0 → ∀ j, j < 10 → I a (o + 1 + 41 * c + j) = cenc j (sC σ c j)) ∧
  (∀ c, c < sN σ 0 → I a (o + 1 + 41 * c + 10) = nI (sL σ c).length) ∧ (∀ c, c < sN σ 0 → ∀ r v, (sL σ c)[r]? = some v → I a (o + 1 + 41 * c + 11 + r) = nI v) ∧
  (∀ p, p < sN σ 2 → ∀ j, j < 7 → I a (o + 336 + 7 * p + j) = penc j (sP σ p j)) ∧ (∀ r, r < sN σ 1 → I a (o + 330 + r) = nI (sR σ r))
/-- nothing outside the season at b has changed -/
def FC (b : Nat) (I J : q_Mem) : Prop := ∀ a, (a < b ∨ b + 50 ≤ a) → J a = I a
/-- nothing outside the row a has changed -/
def FM (a : Nat) (I J : q_Mem) : Prop := ∀ i, i ≠ a → J i = I i
theorem FC.rf {b : Nat} {I : q_Mem} : FC b I I := fun _ _ => rfl
theorem FC.tr {b : Nat} {I J K : q_Mem} (h : FC b I J) (h2 : FC b J K) : FC b I K := fun a ha => (h2 a ha).trans (h a ha)
theorem FC.up {b a j : Nat} {I J : q_Mem} {x : Int32} (h : FC b I J) (h1 : b ≤ a) (h2 : a < b + 50) : FC b I (q_up J a j x) := by
  intro i hi
  rw [← h i hi]
  funext j'
  exact if_neg (fun q => by omega)
theorem FM.rf {b : Nat} {I : q_Mem} : FM b I I := fun _ _ => rfl
theorem FM.tr {b : Nat} {I J K : q_Mem} (h : FM b I J) (h2 : FM b J K) : FM b I K := fun a ha => (h2 a ha).trans (h a ha)
theorem FM.up {a j : Nat} {I J : q_Mem} {x : Int32} (h : FM a I J) : FM a I (q_up J a j x) := by
  intro i hi
  rw [← h i hi]
  funext j'
  exact if_neg (fun q => hi q.1)
theorem q_up_n {I : q_Mem} {a j a' j' : Nat} {x : Int32} (h : ¬ (a' = a ∧ j' = j)) : q_up I a j x a' j' = I a' j' := if_neg h
theorem q_up_s {I : q_Mem} {a j : Nat} {x : Int32} : q_up I a j x a j = x := if_pos ⟨rfl, rfl⟩
/-! changes of the class's season -/
theorem RC.N {b j v : Nat} {I : q_Mem} {σ : q_S} {x : Int32} (h : RC b I σ) (hj : j < 3) (hx : x = nI v) : RC b (q_up I b (nslot j) x) (uN σ j v) := by
  obtain ⟨h1, h2, h3, h4, h5, h6, h7, h8, h9⟩ := h
  have hs := nslot_lt j hj
  refine ⟨fun i hi => ?_, fun i hi => ?_, fun c hc i hi => ?_, fun c hc => ?_, fun c hc r v hr => ?_, fun p hp i hi => ?_, fun r hr => ?_, fun c hc => ?_, fun p hp => ?_⟩
  · by_cases e : i = j
    · subst e; rw [q_up_s, hx]; exact congrArg nI f1_s.symm
    · rw [q_up_n (fun q => e (nslot_inj j hj i hi q.2)), h1 i hi]; exact congrArg nI (f1_n e).symm
  · rw [q_up_n (fun q => by omega)]; exact h2 i hi
  · rw [q_up_n (fun q => by omega)]; exact h3 c hc i hi
  · rw [q_up_n (fun q => by omega)]; exact h4 c hc
  · rw [q_up_n (fun q => by omega)]; exact h5 c hc r v hr
  · rw [q_up_n (fun q => by omega)]; exact h6 p hp i hi
  · rw [q_up_n (fun q => by omega)]; exact h7 r hr
  · rw [q_up_n (fun q => by omega)]; exact h8 c hc
  · rw [q_up_n (fun q => by omega)]; exact h9 p hp
theorem RC.G {b j v : Nat} {I : q_Mem} {σ : q_S} {x : Int32} (h : RC b I σ) (hj : j < 8) (hx : x = nI v) : RC b (q_up I b (6 + j) x) (uG σ j v) := by
  obtain ⟨h1, h2, h3, h4, h5, h6, h7, h8, h9⟩ := h
  refine ⟨fun i hi => ?_, fun i hi => ?_, fun c hc i hi => ?_, fun c hc => ?_, fun c hc r v hr => ?_, fun p hp i hi => ?_, fun r hr => ?_, fun c hc => ?_, fun p hp => ?_⟩
  · have hs := nslot_lt i hi
    rw [q_up_n (fun q => by omega)]; exact h1 i hi
  · by_cases e : i = j
    · subst e; rw [q_up_s, hx]; exact congrArg nI f1_s.symm
    · rw [q_up_n (fun q => by omega), h2 i hi]; exact congrArg nI (f1_n e).symm
  · rw [q_up_n (fun q => by omega)]; exact h3 c hc i hi
  · rw [q_up_n (fun q => by omega)]; exact h4 c hc
  · rw [q_up_n (fun q => by omega)]; exact h5 c hc r v hr
  · rw [q_up_n (fun q => by omega)]; exact h6 p hp i hi
  · rw [q_up_n (fun q => by omega)]; exact h7 r hr
  · rw [q_up_n (fun q => by omega)]; exact h8 c hc
  · rw [q_up_n (fun q => by omega)]; exact h9 p hp
theorem RC.C {b c j v : Nat} {I : q_Mem} {σ : q_S} {x : Int32} (h : RC b I σ) (hc : c < 8) (hj : j < 10) (hx : x = cenc j v) : RC b (q_up I (b + 4 + 2 * c) (cslot j) x) (uC σ c j v) := by
  obtain ⟨h1, h2, h3, h4, h5, h6, h7, h8, h9⟩ := h
  have hs := cslot_lt j hj
  refine ⟨fun i hi => ?_, fun i hi => ?_, fun d hd i hi => ?_, fun d hd => ?_, fun d hd r v hr => ?_, fun p hp i hi => ?_, fun r hr => ?_, fun d hd => ?_, fun p hp => ?_⟩
  · rw [q_up_n (fun q => by omega)]; exact h1 i hi
  · rw [q_up_n (fun q => by omega)]; exact h2 i hi
  · by_cases e : d = c ∧ i = j
    · obtain ⟨rfl, rfl⟩ := e; rw [q_up_s, hx]; exact congrArg (cenc i) f2_s.symm
    · rw [q_up_n (fun q => e ⟨by omega, cslot_inj j hj i hi q.2⟩), h3 d hd i hi]; exact congrArg (cenc i) (f2_n e).symm
  · rw [q_up_n (fun q => by omega)]; exact h4 d hd
  · rw [q_up_n (fun q => by omega)]; exact h5 d hd r v hr
  · rw [q_up_n (fun q => by omega)]; exact h6 p hp i hi
  · rw [q_up_n (fun q => by omega)]; exact h7 r hr
  · rw [q_up_n (fun q => by omega)]; exact h8 d hd
  · rw [q_up_n (fun q => by omega)]; exact h9 p hp
theorem RC.P {b p j v : Nat} {I : q_Mem} {σ : q_S} {x : Int32} (h : RC b I σ) (hp : p < 30) (hj : j < 7) (hx : x = penc j v) : RC b (q_up I (b + 20 + p) (pslot j) x) (uP σ p j v) := by
  obtain ⟨h1, h2, h3, h4, h5, h6, h7, h8, h9⟩ := h
  have hs := pslot_lt j hj
  refine ⟨fun i hi => ?_, fun i hi => ?_, fun d hd i hi => ?_, fun d hd => ?_, fun d hd r v hr => ?_, fun d hd i hi => ?_, fun r hr => ?_, fun d hd => ?_, fun d hd => ?_⟩
  · rw [q_up_n (fun q => by omega)]; exact h1 i hi
  · rw [q_up_n (fun q => by omega)]; exact h2 i hi
  · rw [q_up_n (fun q => by omega)]; exact h3 d hd i hi
  · rw [q_up_n (fun q => by omega)]; exact h4 d hd
  · rw [q_up_n (fun q => by omega)]; exact h5 d hd r v hr
  · by_cases e : d = p ∧ i = j
    · obtain ⟨rfl, rfl⟩ := e; rw [q_up_s, hx]; exact congrArg (penc i) f2_s.symm
    · rw [q_up_n (fun q => e ⟨by omega, pslot_inj j hj i hi q.2⟩), h6 d hd i hi]; exact congrArg (penc i) (f2_n e).symm
  · rw [q_up_n (fun q => by omega)]; exact h7 r hr
  · rw [q_up_n (fun q => by omega)]; exact h8 d hd
  · rw [q_up_n (fun q => by omega)]; exact h9 d hd
theorem RC.R {b r v : Nat} {I : q_Mem} {σ : q_S} {x : Int32} (h : RC b I σ) (hr : r < 5) (hx : x = nI v) : RC b (q_up I (b + 3) r x) (uR σ r v) := by
  obtain ⟨h1, h2, h3, h4, h5, h6, h7, h8, h9⟩ := h
  refine ⟨fun i hi => ?_, fun i hi => ?_, fun d hd i hi => ?_, fun d hd => ?_, fun d hd r v hr => ?_, fun d hd i hi => ?_, fun i hi => ?_, fun d hd => ?_, fun d hd => ?_⟩
  · rw [q_up_n (fun q => by omega)]; exact h1 i hi
  · rw [q_up_n (fun q => by omega)]; exact h2 i hi
  · rw [q_up_n (fun q => by omega)]; exact h3 d hd i hi
  · rw [q_up_n (fun q => by omega)]; exact h4 d hd
  · rw [q_up_n (fun q => by omega)]; exact h5 d hd r v hr
  · rw [q_up_n (fun q => by omega)]; exact h6 d hd i hi
  · by_cases e : i = r
    · subst e; rw [q_up_s, hx]; exact congrArg nI f1_s.symm
    · rw [q_up_n (fun q => e q.2), h7 i hi]; exact congrArg nI (f1_n e).symm
  · rw [q_up_n (fun q => by omega)]; exact h8 d hd
  · rw [q_up_n (fun q => by omega)]; exact h9 d hd
/-- a class's people anew: a row of members and its size -/
theorem RC.L {b c : Nat} {l : List Nat} {I J : q_Mem} {σ : q_S} (h : RC b I σ) (hc : c < 8) (hs : J (b + 4 + 2 * c) 12 = nI l.length) (hm : ∀ r v, l[r]? = some v → J (b + 5 + 2 * c) r = nI v)
    (ho : ∀ a j, ¬ (a = b + 5 + 2 * c) → ¬ (a = b + 4 + 2 * c ∧ j = 12) → J a j = I a j) : RC b J (uL σ c l) := by
  obtain ⟨h1, h2, h3, h4, h5, h6, h7, h8, h9⟩ := h
  refine ⟨fun i hi => ?_, fun i hi => ?_, fun d hd i hi => ?_, fun d hd => ?_, fun d hd r v hr => ?_, fun d hd i hi => ?_, fun i hi => ?_, fun d hd => ?_, fun d hd => ?_⟩
  · rw [ho _ _ (fun q => by omega) (fun q => by omega)]; exact h1 i hi
  · rw [ho _ _ (fun q => by omega) (fun q => by omega)]; exact h2 i hi
  · have hs := cslot_lt i hi
    rw [ho _ _ (fun q => by omega) (fun q => by omega)]; exact h3 d hd i hi
  · by_cases e : d = c
    · subst e; rw [hs]; exact congrArg (fun l => nI (List.length l)) f1_s.symm
    · rw [ho _ _ (fun q => by omega) (fun q => by omega), h4 d hd]; exact congrArg (fun l => nI (List.length l)) (f1_n e).symm
  · by_cases e : d = c
    · subst e
      have hr : (f1 (sL σ) d l d)[r]? = some v := hr
      rw [f1_s] at hr
      exact hm r v hr
    · have hr : (f1 (sL σ) c l d)[r]? = some v := hr
      rw [f1_n e] at hr
      rw [ho _ _ (fun q => by omega) (fun q => by omega)]; exact h5 d hd r v hr
  · rw [ho _ _ (fun q => by omega) (fun q => by omega)]; exact h6 d hd i hi
  · rw [ho _ _ (fun q => by omega) (fun q => by omega)]; exact h7 i hi
  · rw [ho _ _ (fun q => by omega) (fun q => by omega)]; exact h8 d hd
  · rw [ho _ _ (fun q => by omega) (fun q => by omega)]; exact h9 d hd
theorem RC.fr {b : Nat} {I J : q_Mem} {σ : q_S} (h : RC b I σ) (hf : ∀ a, b ≤ a → a < b + 50 → J a = I a) : RC b J σ := by
  obtain ⟨h1, h2, h3, h4, h5, h6, h7, h8, h9⟩ := h
  exact ⟨fun i hi => by rw [hf _ (by omega) (by omega)]; exact h1 i hi, fun i hi => by rw [hf _ (by omega) (by omega)]; exact h2 i hi, fun d hd i hi => by rw [hf _ (by omega) (by omega)]; exact h3 d hd i hi, fun d hd => by rw [hf _ (by omega) (by omega)]; exact h4 d hd, fun d hd r v hr => by rw [hf _ (by omega) (by omega)]; exact h5 d hd r v hr, fun d hd i hi => by rw [hf _ (by omega) (by omega)]; exact h6 d hd i hi, fun i hi => by rw [hf _ (by omega) (by omega)]; exact h7 i hi, fun d hd => by rw [hf _ (by omega) (by omega)]; exact h8 d hd, fun d hd => by rw [hf _ (by omega) (by omega)]; exact h9 d hd⟩
/-! changes of the reference's season -/
def sB (σ : q_S) : Prop := sN σ 0 ≤ 8 ∧ sN σ 1 ≤ 5 ∧ sN σ 2 ≤ 30 ∧ ∀ c, (sL σ c).length ≤ 20
theorem g_lt {l : List Nat} {r v n : Nat} (h : l[r]? = some v) (hn : l.length ≤ n) : r < n := by
  rcases Nat.lt_or_ge r l.length with q | q
  · omega
  · rw [List.getElem?_eq_none q] at h; cases h
theorem RM.G {a o j v : Nat} {I : q_Mem} {σ : q_S} {x : Int32} (h : RM a o I σ) (hB : sB σ) (hj : j < 8) (hx : x = nI v) : RM a o (q_up I a (o + 546 + j) x) (uG σ j v) := by
  obtain ⟨h1, h2, h3, h4, h5, h6, h7⟩ := h
  obtain ⟨b0, b1, b2, b3⟩ := hB
  refine ⟨fun i hi => ?_, fun i hi => ?_, fun d hd i hi => ?_, fun d hd => ?_, fun d hd r v hr => ?_, fun p hp i hi => ?_, fun r hr => ?_⟩
  · have hm : mslot i < 336 := by unfold mslot; split <;> (try split) <;> omega
    rw [q_up_n (fun q => by omega)]; exact h1 i hi
  · by_cases e : i = j
    · subst e; rw [q_up_s, hx]; exact congrArg nI f1_s.symm
    · rw [q_up_n (fun q => by omega), h2 i hi]; exact congrArg nI (f1_n e).symm
  · have hd : d < sN σ 0 := hd
    rw [q_up_n (fun q => by omega)]; exact h3 d hd i hi
  · have hd : d < sN σ 0 := hd
    rw [q_up_n (fun q => by omega)]; exact h4 d hd
  · have hd : d < sN σ 0 := hd
    have := g_lt hr (b3 d)
    rw [q_up_n (fun q => by omega)]; exact h5 d hd r v hr
  · have hp : p < sN σ 2 := hp
    rw [q_up_n (fun q => by omega)]; exact h6 p hp i hi
  · have hr : r < sN σ 1 := hr
    rw [q_up_n (fun q => by omega)]; exact h7 r hr
theorem RM.C {a o c j v : Nat} {I : q_Mem} {σ : q_S} {x : Int32} (h : RM a o I σ) (hB : sB σ) (hc : c < sN σ 0) (hj : j < 10) (hx : x = cenc j v) : RM a o (q_up I a (o + 1 + 41 * c + j) x) (uC σ c j v) := by
  obtain ⟨h1, h2, h3, h4, h5, h6, h7⟩ := h
  obtain ⟨b0, b1, b2, b3⟩ := hB
  refine ⟨fun i hi => ?_, fun i hi => ?_, fun d hd i hi => ?_, fun d hd => ?_, fun d hd r v hr => ?_, fun p hp i hi => ?_, fun r hr => ?_⟩
  · have hm : mslot i = 0 ∨ mslot i = 329 ∨ mslot i = 335 := by unfold mslot; split <;> (try split) <;> omega
    rw [q_up_n (fun q => by omega)]; exact h1 i hi
  · rw [q_up_n (fun q => by omega)]; exact h2 i hi
  · have hd : d < sN σ 0 := hd
    by_cases e : d = c ∧ i = j
    · obtain ⟨rfl, rfl⟩ := e; rw [q_up_s, hx]; exact congrArg (cenc i) f2_s.symm
    · rw [q_up_n (fun q => by omega), h3 d hd i hi]; exact congrArg (cenc i) (f2_n e).symm
  · have hd : d < sN σ 0 := hd
    rw [q_up_n (fun q => by omega)]; exact h4 d hd
  · have hd : d < sN σ 0 := hd
    have := g_lt hr (b3 d)
    rw [q_up_n (fun q => by omega)]; exact h5 d hd r v hr
  · have hp : p < sN σ 2 := hp
    rw [q_up_n (fun q => by omega)]; exact h6 p hp i hi
  · have hr : r < sN σ 1 := hr
    rw [q_up_n (fun q => by omega)]; exact h7 r hr
theorem RM.P {a o p j v : Nat} {I : q_Mem} {σ : q_S} {x : Int32} (h : RM a o I σ) (hB : sB σ) (hp : p < sN σ 2) (hj : j < 7) (hx : x = penc j v) : RM a o (q_up I a (o + 336 + 7 * p + j) x) (uP σ p j v) := by
  obtain ⟨h1, h2, h3, h4, h5, h6, h7⟩ := h
  obtain ⟨b0, b1, b2, b3⟩ := hB
  refine ⟨fun i hi => ?_, fun i hi => ?_, fun d hd i hi => ?_, fun d hd => ?_, fun d hd r v hr => ?_, fun d hd i hi => ?_, fun r hr => ?_⟩
  · have hm : mslot i = 0 ∨ mslot i = 329 ∨ mslot i = 335 := by unfold mslot; split <;> (try split) <;> omega
    rw [q_up_n (fun q => by omega)]; exact h1 i hi
  · rw [q_up_n (fun q => by omega)]; exact h2 i hi
  · have hd : d < sN σ 0 := hd
    rw [q_up_n (fun q => by omega)]; exact h3 d hd i hi
  · have hd : d < sN σ 0 := hd
    rw [q_up_n (fun q => by omega)]; exact h4 d hd
  · have hd : d < sN σ 0 := hd
    have := g_lt hr (b3 d)
    rw [q_up_n (fun q => by omega)]; exact h5 d hd r v hr
  · have hd : d < sN σ 2 := hd
    by_cases e : d = p ∧ i = j
    · obtain ⟨rfl, rfl⟩ := e; rw [q_up_s, hx]; exact congrArg (penc i) f2_s.symm
    · rw [q_up_n (fun q => by omega), h6 d hd i hi]; exact congrArg (penc i) (f2_n e).symm
  · have hr : r < sN σ 1 := hr
    rw [q_up_n (fun q => by omega)]; exact h7 r hr
theorem RM.L {a o c : Nat} {l : List Nat} {I J : q_Mem} {σ : q_S} (h : RM a o I σ) (hB : sB σ) (hc : c < sN σ 0) (hs : J a (o + 1 + 41 * c + 10) = nI l.length) (hm : ∀ r v, l[r]? = some v → J a (o + 1 + 41 * c + 11 + r) = nI v)
    (ho : ∀ i, (i < o + 1 + 41 * c + 10 ∨ o + 1 + 41 * c + 41 ≤ i) → J a i = I a i) : RM a o J (uL σ c l) := by
  obtain ⟨h1, h2, h3, h4, h5, h6, h7⟩ := h
  obtain ⟨b0, b1, b2, b3⟩ := hB
  refine ⟨fun i hi => ?_, fun i hi => ?_, fun d hd i hi => ?_, fun d hd => ?_, fun d hd r v hr => ?_, fun d hd i hi => ?_, fun r hr => ?_⟩
  · have hm : mslot i = 0 ∨ mslot i = 329 ∨ mslot i = 335 := by unfold mslot; split <;> (try split) <;> omega
    rw [ho _ (by omega)]; exact h1 i hi
  · rw [ho _ (by omega)]; exact h2 i hi
  · have hd : d < sN σ 0 := hd
    rw [ho _ (by omega)]; exact h3 d hd i hi
  · have hd : d < sN σ 0 := hd
    by_cases e : d = c
    · subst e; rw [hs]; exact congrArg (fun l => nI (List.length l)) f1_s.symm
    · rw [ho _ (by omega), h4 d hd]; exact congrArg (fun l => nI (List.length l)) (f1_n e).symm
  · have hd : d < sN σ 0 := hd
    by_cases e : d = c
    · subst e
      have hr : (f1 (sL σ) d l d)[r]? = some v := hr
      rw [f1_s] at hr
      exact hm r v hr
    · have hr : (f1 (sL σ) c l d)[r]? = some v := hr
      rw [f1_n e] at hr
      have := g_lt hr (b3 d)
      rw [ho _ (by omega)]; exact h5 d hd r v hr
  · have hd : d < sN σ 2 := hd
    rw [ho _ (by omega)]; exact h6 d hd i hi
  · have hr : r < sN σ 1 := hr
    rw [ho _ (by omega)]; exact h7 r hr
theorem RM.fr {a o : Nat} {I J : q_Mem} {σ : q_S} (h : RM a o I σ) (hf : J a = I a) : RM a o J σ := by
  obtain ⟨h1, h2, h3, h4, h5, h6, h7⟩ := h
  exact ⟨fun i hi => by rw [hf]; exact h1 i hi, fun i hi => by rw [hf]; exact h2 i hi, fun d hd i hi => by rw [hf]; exact h3 d hd i hi, fun d hd => by rw [hf]; exact h4 d hd, fun d hd r v hr => by rw [hf]; exact h5 d hd r v hr, fun d hd i hi => by rw [hf]; exact h6 d hd i hi, fun i hi => by rw [hf]; exact h7 i hi⟩
end
section
/-! the layout's kinds -/
theorem kC_all : ∀ a, a < 362 → q_kd a = 0 → q_kd (a + 1) = 10 ∧ q_ln (a + 1) = 20 := by decide +kernel
theorem kS_all : ∀ a, a < 362 → q_kd a = 3 → (a = 1 ∨ a = 51 ∨ a = 103 ∨ a = 153 ∨ a = 203 ∨ a = 253 ∨ a = 303) := by decide +kernel
theorem kS_in : ∀ b, (b = 1 ∨ b = 51 ∨ b = 103 ∨ b = 153 ∨ b = 203 ∨ b = 253 ∨ b = 303) → (q_kd b = 3 ∧ q_kd (b + 1) = 12 ∧ q_kd (b + 2) = 13 ∧ q_kd (b + 3) = 10 ∧ q_ln (b + 1) = 8 ∧ q_ln (b + 2) = 30 ∧ q_ln (b + 3) = 5) ∧ (∀ c, c < 8 → q_kd (b + 4 + 2 * c) = 0) ∧ ∀ p, p < 30 → q_kd (b + 20 + p) = 2 := by
  intro b h
  rcases h with rfl | rfl | rfl | rfl | rfl | rfl | rfl <;> decide +kernel
theorem kC {a : Nat} (h : q_kd a = 0) : q_kd (a + 1) = 10 ∧ q_ln (a + 1) = 20 := kC_all a (q_kd_lt h (by omega)) h
theorem kS {b : Nat} (h : q_kd b = 3) : b = 1 ∨ b = 51 ∨ b = 103 ∨ b = 153 ∨ b = 203 ∨ b = 253 ∨ b = 303 := kS_all b (q_kd_lt h (by omega)) h
theorem kS1 {b : Nat} (h : q_kd b = 3) : q_kd (b + 1) = 12 := (kS_in b (kS h)).1.2.1
theorem kS2 {b : Nat} (h : q_kd b = 3) : q_kd (b + 2) = 13 := (kS_in b (kS h)).1.2.2.1
theorem kS3 {b : Nat} (h : q_kd b = 3) : q_kd (b + 3) = 10 := (kS_in b (kS h)).1.2.2.2.1
theorem lS1 {b : Nat} (h : q_kd b = 3) : q_ln (b + 1) = 8 := (kS_in b (kS h)).1.2.2.2.2.1
theorem lS2 {b : Nat} (h : q_kd b = 3) : q_ln (b + 2) = 30 := (kS_in b (kS h)).1.2.2.2.2.2.1
theorem lS3 {b : Nat} (h : q_kd b = 3) : q_ln (b + 3) = 5 := (kS_in b (kS h)).1.2.2.2.2.2.2
theorem kSC {b c : Nat} (h : q_kd b = 3) (hc : c < 8) : q_kd (b + 4 + 2 * c) = 0 := (kS_in b (kS h)).2.1 c hc
theorem kSP {b p : Nat} (h : q_kd b = 3) (hp : p < 30) : q_kd (b + 20 + p) = 2 := (kS_in b (kS h)).2.2 p hp
section q_rules6
variable {k : q_MI} {pc : Nat} {ls : List (Option Value)} {st : List Value} {I : q_Mem} {Q : Option Value → q_Mem → Prop}
theorem q_aaldC {b i : Nat} {x : Int32} (hb : q_kd b = 3) (hx : x = nI i) (hi : i < 8) (hd : decode k.2.1 pc = .ok (.aaload, 1)) (kk : q_X k (pc + 1) ls (.ref (b + 4 + 2 * i) :: st) I Q) : q_X k pc ls (.int x :: .ref (b + 1) :: st) I Q := by
  refine q_aald (c := 12) (kS1 hb) (by omega) (by omega) hx (by rw [lS1 hb]; exact hi) (by rw [lS1 hb]; decide) hd ?_
  have e : q_el 12 (b + 1) i = b + 4 + 2 * i := by simp [q_el]
  rw [e]; exact kk
theorem q_aaldP {b i : Nat} {x : Int32} (hb : q_kd b = 3) (hx : x = nI i) (hi : i < 30) (hd : decode k.2.1 pc = .ok (.aaload, 1)) (kk : q_X k (pc + 1) ls (.ref (b + 20 + i) :: st) I Q) : q_X k pc ls (.int x :: .ref (b + 2) :: st) I Q := by
  refine q_aald (c := 13) (kS2 hb) (by omega) (by omega) hx (by rw [lS2 hb]; exact hi) (by rw [lS2 hb]; decide) hd ?_
  have e : q_el 13 (b + 2) i = b + 20 + i := by simp [q_el]
  rw [e]; exact kk
theorem q_aaldS {i : Nat} {x : Int32} (hx : x = nI i) (hi : i < 5) (hd : decode k.2.1 pc = .ok (.aaload, 1)) (kk : q_X k (pc + 1) ls (.ref (103 + 50 * i) :: st) I Q) : q_X k pc ls (.int x :: .ref 102 :: st) I Q := by
  refine q_aald (c := 14) (a := 102) (by decide) (by omega) (by omega) hx (by exact hi) (by decide) hd ?_
  have e : q_el 14 102 i = 103 + 50 * i := by simp [q_el]
  rw [e]; exact kk
theorem q_lenC {b : Nat} {v : Int32} (hb : q_kd b = 3) (hv : nI 8 = v) (hd : decode k.2.1 pc = .ok (.arraylength, 1)) (kk : q_X k (pc + 1) ls (.int v :: st) I Q) : q_X k pc ls (.ref (b + 1) :: st) I Q :=
  q_alen (kS1 hb) (by omega) (by omega) (by rw [lS1 hb]; exact hv) hd kk
theorem q_lenP {b : Nat} {v : Int32} (hb : q_kd b = 3) (hv : nI 30 = v) (hd : decode k.2.1 pc = .ok (.arraylength, 1)) (kk : q_X k (pc + 1) ls (.int v :: st) I Q) : q_X k pc ls (.ref (b + 2) :: st) I Q :=
  q_alen (kS2 hb) (by omega) (by omega) (by rw [lS2 hb]; exact hv) hd kk
theorem q_lenR {b : Nat} {v : Int32} (hb : q_kd b = 3) (hv : nI 5 = v) (hd : decode k.2.1 pc = .ok (.arraylength, 1)) (kk : q_X k (pc + 1) ls (.int v :: st) I Q) : q_X k pc ls (.ref (b + 3) :: st) I Q :=
  q_alen (kS3 hb) (by omega) (by omega) (by rw [lS3 hb]; exact hv) hd kk
theorem q_lenM {a : Nat} {v : Int32} (ha : q_kd a = 0) (hv : nI 20 = v) (hd : decode k.2.1 pc = .ok (.arraylength, 1)) (kk : q_X k (pc + 1) ls (.int v :: st) I Q) : q_X k pc ls (.ref (a + 1) :: st) I Q :=
  q_alen (kC ha).1 (by omega) (by omega) (by rw [(kC ha).2]; exact hv) hd kk
theorem q_ialdM {a i : Nat} {x v : Int32} (ha : q_kd a = 0) (hx : x = nI i) (hi : i < 20) (hv : I (a + 1) i = v) (hd : decode k.2.1 pc = .ok (.iaload, 1)) (kk : q_X k (pc + 1) ls (.int v :: st) I Q) : q_X k pc ls (.int x :: .ref (a + 1) :: st) I Q :=
  q_iald (kC ha).1 hx (by rw [(kC ha).2]; exact hi) (by rw [(kC ha).2]; decide) hv hd kk
theorem q_iastM {a i : Nat} {x y : Int32} (ha : q_kd a = 0) (hx : x = nI i) (hi : i < 20) (hd : decode k.2.1 pc = .ok (.iastore, 1)) (kk : q_X k (pc + 1) ls st (q_up I (a + 1) i y) Q) : q_X k pc ls (.int y :: .int x :: .ref (a + 1) :: st) I Q :=
  q_iast (kC ha).1 hx (by rw [(kC ha).2]; exact hi) (by rw [(kC ha).2]; decide) hd kk
theorem q_ialdR {b i : Nat} {x v : Int32} (ha : q_kd b = 3) (hx : x = nI i) (hi : i < 5) (hv : I (b + 3) i = v) (hd : decode k.2.1 pc = .ok (.iaload, 1)) (kk : q_X k (pc + 1) ls (.int v :: st) I Q) : q_X k pc ls (.int x :: .ref (b + 3) :: st) I Q :=
  q_iald (kS3 ha) hx (by rw [lS3 ha]; exact hi) (by rw [lS3 ha]; decide) hv hd kk
theorem q_iastR {b i : Nat} {x y : Int32} (ha : q_kd b = 3) (hx : x = nI i) (hi : i < 5) (hd : decode k.2.1 pc = .ok (.iastore, 1)) (kk : q_X k (pc + 1) ls st (q_up I (b + 3) i y) Q) : q_X k pc ls (.int y :: .int x :: .ref (b + 3) :: st) I Q :=
  q_iast (kS3 ha) hx (by rw [lS3 ha]; exact hi) (by rw [lS3 ha]; decide) hd kk
end q_rules6
end
section
/-! the class's classes (Course): leaves -/
theorem c_hasFree {a : Nat} {I : q_Mem} (ha : q_kd a = 0) {n m : Nat} (hn : I a 12 = nI n) (hm : I a 6 = nI m) (hn2 : n < 2 ^ 31) (hm2 : m < 2 ^ 31) : q_M kX0_hasFreePlace [.ref a] I (fun v J => v = some (.int (if I a 8 = 0 ∧ n < m then 1 else 0)) ∧ I = J) := by
  refine q_M.of pnX0_hasFreePlace (by simp [Value.category]) (Nat.le_of_ble_eq_true rfl) ?_
  refine q_aload_n dX0_hasFreePlace_0 rfl ?_
  refine q_getI fl_RX0_15 rfl (by assumption) rfl dX0_hasFreePlace_1 ?_
  refine q_if_ne (tgt := 22) dX0_hasFreePlace_4 (by decide) (fun h => ?_) (fun h => ?_)
  · refine q_iconst (v := nI 0) dX0_hasFreePlace_22 (by decide) ?_
    exact q_iret rfl rfl dX0_hasFreePlace_23 ⟨by rw [if_neg (fun q => h q.1)]; rfl, rfl⟩
  · refine q_aload_n dX0_hasFreePlace_7 rfl ?_
    refine q_getI fl_RX0_49 rfl (by assumption) hn dX0_hasFreePlace_8 ?_
    refine q_aload_n dX0_hasFreePlace_11 rfl ?_
    refine q_getI fl_RX0_40 rfl (by assumption) hm dX0_hasFreePlace_12 ?_
    refine q_icmp_geN (tgt := 22) hn2 hm2 dX0_hasFreePlace_15 (by decide) (fun h2 => ?_) (fun h2 => ?_)
    · refine q_iconst (v := nI 0) dX0_hasFreePlace_22 (by decide) ?_
      exact q_iret rfl rfl dX0_hasFreePlace_23 ⟨by rw [if_neg (fun q => by omega)]; rfl, rfl⟩
    · refine q_iconst (v := nI 1) dX0_hasFreePlace_18 (by decide) ?_
      refine q_goto (tgt := 23) dX0_hasFreePlace_19 (by decide) ?_
      exact q_iret rfl rfl dX0_hasFreePlace_23 ⟨by rw [if_pos ⟨h, h2⟩]; rfl, rfl⟩
theorem c_tooSmall {a : Nat} {I : q_Mem} (ha : q_kd a = 0) {n m : Nat} (hn : I a 12 = nI n) (hm : I a 5 = nI m) (hn2 : n < 2 ^ 31) (hm2 : m < 2 ^ 31) : q_M kX0_isTooSmall [.ref a] I (fun v J => v = some (.int (if I a 8 = 0 ∧ n < m then 1 else 0)) ∧ I = J) := by
  refine q_M.of pnX0_isTooSmall (by simp [Value.category]) (Nat.le_of_ble_eq_true rfl) ?_
  refine q_aload_n dX0_isTooSmall_0 rfl ?_
  refine q_getI fl_RX0_15 rfl (by assumption) rfl dX0_isTooSmall_1 ?_
  refine q_if_ne (tgt := 22) dX0_isTooSmall_4 (by decide) (fun h => ?_) (fun h => ?_)
  · refine q_iconst (v := nI 0) dX0_isTooSmall_22 (by decide) ?_
    exact q_iret rfl rfl dX0_isTooSmall_23 ⟨by rw [if_neg (fun q => h q.1)]; rfl, rfl⟩
  · refine q_aload_n dX0_isTooSmall_7 rfl ?_
    refine q_getI fl_RX0_49 rfl (by assumption) hn dX0_isTooSmall_8 ?_
    refine q_aload_n dX0_isTooSmall_11 rfl ?_
    refine q_getI fl_RX0_37 rfl (by assumption) hm dX0_isTooSmall_12 ?_
    refine q_icmp_geN (tgt := 22) hn2 hm2 dX0_isTooSmall_15 (by decide) (fun h2 => ?_) (fun h2 => ?_)
    · refine q_iconst (v := nI 0) dX0_isTooSmall_22 (by decide) ?_
      exact q_iret rfl rfl dX0_isTooSmall_23 ⟨by rw [if_neg (fun q => by omega)]; rfl, rfl⟩
    · refine q_iconst (v := nI 1) dX0_isTooSmall_18 (by decide) ?_
      refine q_goto (tgt := 23) dX0_isTooSmall_19 (by decide) ?_
      exact q_iret rfl rfl dX0_isTooSmall_23 ⟨by rw [if_pos ⟨h, h2⟩]; rfl, rfl⟩
theorem c_add {a n x : Nat} {I : q_Mem} (ha : q_kd a = 0) (hn : I a 12 = nI n) (hn2 : n < 20) : q_M kX0_add [.ref a, .int (nI x)] I (fun v J => v = none ∧ J = q_up (q_up I (a + 1) n (nI x)) a 12 (nI (n + 1))) := by
  refine q_M.of pnX0_add (by simp [Value.category]) (Nat.le_of_ble_eq_true rfl) ?_
  refine q_aload_n dX0_add_0 rfl ?_
  refine q_getI fl_RX0_49 rfl (by assumption) hn dX0_add_1 ?_
  refine q_if_ltN (tgt := 39) (by omega) dX0_add_4 (by decide) (fun h => ?_) (fun h => ?_)
  · omega
  refine q_aload_n dX0_add_7 rfl ?_
  refine q_getI fl_RX0_49 rfl (by assumption) hn dX0_add_8 ?_
  refine q_aload_n dX0_add_11 rfl ?_
  refine q_getR fl_RX0_9 rfl (by assumption) dX0_add_12 ?_
  refine q_lenM ha rfl dX0_add_15 ?_
  refine q_icmp_geN (tgt := 39) (by omega) (by omega) dX0_add_16 (by decide) (fun h2 => ?_) (fun h2 => ?_)
  · omega
  refine q_aload_n dX0_add_19 rfl ?_
  refine q_getR fl_RX0_9 rfl (by assumption) dX0_add_20 ?_
  refine q_aload_n dX0_add_23 rfl ?_
  refine q_getI fl_RX0_49 rfl (by assumption) hn dX0_add_24 ?_
  refine q_iload_n dX0_add_27 rfl ?_
  refine q_iastM ha rfl hn2 dX0_add_28 ?_
  refine q_aload_n dX0_add_29 rfl ?_
  refine q_dup dX0_add_30 rfl ?_
  refine q_getI fl_RX0_49 rfl (by assumption) ((q_up_n (by omega)).trans hn) dX0_add_31 ?_
  refine q_iconst (v := nI 1) dX0_add_34 (by decide) ?_
  refine q_iadd dX0_add_35 ?_
  rw [nI_add]
  refine q_putI ⟨fl_RX0_49, rfl, rfl⟩ (by assumption) ⟨rfl, rfl⟩ dX0_add_36 ?_
  exact q_vret rfl dX0_add_39 ⟨rfl, rfl⟩
theorem c_levels {a d x y : Nat} {I : q_Mem} (ha : q_kd a = 0) (hd : q_kd d = 0) (hx : I a 3 = nI x) (hy : I d 3 = nI y) (hx2 : x < 2 ^ 30) (hy2 : y < 2 ^ 30) : q_M kX0_levelsFrom [.ref a, .ref d] I (fun v J => v = some (.int (nI (if x > y then x - y else y - x))) ∧ I = J) := by
  refine q_M.of pnX0_levelsFrom (by simp [Value.category]) (Nat.le_of_ble_eq_true rfl) ?_
  refine q_aload_n dX0_levelsFrom_0 rfl ?_
  refine q_getI fl_RX0_31 rfl (by assumption) hx dX0_levelsFrom_1 ?_
  refine q_aload_n dX0_levelsFrom_4 rfl ?_
  refine q_getI fl_RX0_31 rfl (by assumption) hy dX0_levelsFrom_5 ?_
  refine q_icmp_leN (tgt := 23) (by omega) (by omega) dX0_levelsFrom_8 (by decide) (fun h => ?_) (fun h => ?_)
  · refine q_aload_n dX0_levelsFrom_23 rfl ?_
    refine q_getI fl_RX0_31 rfl (by assumption) hy dX0_levelsFrom_24 ?_
    refine q_aload_n dX0_levelsFrom_27 rfl ?_
    refine q_getI fl_RX0_31 rfl (by assumption) hx dX0_levelsFrom_28 ?_
    refine q_isub dX0_levelsFrom_31 ?_
    rw [pk_sub h]
    exact q_iret rfl rfl dX0_levelsFrom_32 ⟨by rw [if_neg (by omega)], rfl⟩
  · refine q_aload_n dX0_levelsFrom_11 rfl ?_
    refine q_getI fl_RX0_31 rfl (by assumption) hx dX0_levelsFrom_12 ?_
    refine q_aload_n dX0_levelsFrom_15 rfl ?_
    refine q_getI fl_RX0_31 rfl (by assumption) hy dX0_levelsFrom_16 ?_
    refine q_isub dX0_levelsFrom_19 ?_
    rw [pk_sub (Nat.le_of_lt h)]
    refine q_goto (tgt := 32) dX0_levelsFrom_20 (by decide) ?_
    exact q_iret rfl rfl dX0_levelsFrom_32 ⟨by rw [if_pos h], rfl⟩
/-- memberAt: for a rank of any kind -/
theorem c_memberAt {a n : Nat} {r : Int32} {I : q_Mem} (ha : q_kd a = 0) (hn : I a 12 = nI n) (hn2 : n ≤ 20) : q_M kX0_memberAt [.ref a, .int r] I (fun v J => (∃ i, i < n ∧ r = nI i ∧ v = some (.int (I (a + 1) i)) ∧ I = J) ∨ ((∀ i, i < n → ¬ r = nI i) ∧ v = some (.int (-1)) ∧ I = J)) := by
  refine q_M.of pnX0_memberAt (by simp [Value.category]) (Nat.le_of_ble_eq_true rfl) ?_
  refine q_iload_n dX0_memberAt_0 rfl ?_
  refine q_if_lt (tgt := 30) dX0_memberAt_1 (by decide) (fun h => ?_) (fun h => ?_)
  · refine q_iconst (v := -1) dX0_memberAt_30 (by decide) ?_
    exact q_iret rfl rfl dX0_memberAt_31 (Or.inr ⟨fun i hi q => by rw [q] at h; exact nI_pos (by omega) h, rfl, rfl⟩)
  · obtain ⟨i, hi, rfl⟩ := nI_of h
    refine q_iload_n dX0_memberAt_4 rfl ?_
    refine q_aload_n dX0_memberAt_5 rfl ?_
    refine q_getI fl_RX0_49 rfl (by assumption) hn dX0_memberAt_6 ?_
    refine q_icmp_geN (tgt := 30) (by omega) (by omega) dX0_memberAt_9 (by decide) (fun h2 => ?_) (fun h2 => ?_)
    · refine q_iconst (v := -1) dX0_memberAt_30 (by decide) ?_
      exact q_iret rfl rfl dX0_memberAt_31 (Or.inr ⟨fun j hj q => by have := (nI_eq (by omega) (by omega)).mp q; omega, rfl, rfl⟩)
    · refine q_iload_n dX0_memberAt_12 rfl ?_
      refine q_aload_n dX0_memberAt_13 rfl ?_
      refine q_getR fl_RX0_9 rfl (by assumption) dX0_memberAt_14 ?_
      refine q_lenM ha rfl dX0_memberAt_17 ?_
      refine q_icmp_geN (tgt := 30) (by omega) (by omega) dX0_memberAt_18 (by decide) (fun h3 => ?_) (fun h3 => ?_)
      · omega
      refine q_aload_n dX0_memberAt_21 rfl ?_
      refine q_getR fl_RX0_9 rfl (by assumption) dX0_memberAt_22 ?_
      refine q_iload_n dX0_memberAt_25 rfl ?_
      refine q_ialdM ha rfl (i := i) (by omega) rfl dX0_memberAt_26 ?_
      refine q_goto (tgt := 31) dX0_memberAt_27 (by decide) ?_
      exact q_iret rfl rfl dX0_memberAt_31 (Or.inl ⟨i, h2, rfl, rfl, rfl⟩)
theorem c_reopen {a : Nat} {I : q_Mem} (ha : q_kd a = 0) : q_M kX0_reopen [.ref a] I (fun v J => v = none ∧ J = q_up (q_up (q_up (q_up (q_up I a 8 0) a 9 0) a 10 (-1)) a 11 (-1)) a 12 0) := by
  refine q_M.of pnX0_reopen (by simp [Value.category]) (Nat.le_of_ble_eq_true rfl) ?_
  refine q_aload_n dX0_reopen_0 rfl ?_
  refine q_iconst (v := nI 0) dX0_reopen_1 (by decide) ?_
  refine q_putI ⟨fl_RX0_15, rfl, rfl⟩ (by assumption) ⟨rfl, rfl⟩ dX0_reopen_2 ?_
  refine q_aload_n dX0_reopen_5 rfl ?_
  refine q_iconst (v := nI 0) dX0_reopen_6 (by decide) ?_
  refine q_putI ⟨fl_RX0_46, rfl, rfl⟩ (by assumption) ⟨rfl, rfl⟩ dX0_reopen_7 ?_
  refine q_aload_n dX0_reopen_10 rfl ?_
  refine q_iconst (v := -1) dX0_reopen_11 (by decide) ?_
  refine q_putI ⟨fl_RX0_19, rfl, rfl⟩ (by assumption) ⟨rfl, rfl⟩ dX0_reopen_12 ?_
  refine q_aload_n dX0_reopen_15 rfl ?_
  refine q_iconst (v := -1) dX0_reopen_16 (by decide) ?_
  refine q_putI ⟨fl_RX0_22, rfl, rfl⟩ (by assumption) ⟨rfl, rfl⟩ dX0_reopen_17 ?_
  refine q_aload_n dX0_reopen_20 rfl ?_
  refine q_iconst (v := nI 0) dX0_reopen_21 (by decide) ?_
  refine q_putI ⟨fl_RX0_49, rfl, rfl⟩ (by assumption) ⟨rfl, rfl⟩ dX0_reopen_22 ?_
  exact q_vret rfl dX0_reopen_25 ⟨rfl, rfl⟩
theorem c_begin {a : Nat} {x l m f : Int32} {I : q_Mem} (ha : q_kd a = 0) : q_M kX0_begin [.ref a, .int x, .int l, .int m, .int f] I (fun v J => v = none ∧ J = q_up (q_up (q_up (q_up (q_up (q_up (q_up (q_up (q_up (q_up (q_up I a 2 (x &&& 3)) a 3 ((x >>> (2 &&& 31)) &&& 3)) a 4 (x >>> (4 &&& 31))) a 5 l) a 6 m) a 7 f) a 8 0) a 9 0) a 10 (-1)) a 11 (-1)) a 12 0) := by
  refine q_M.of pnX0_begin (by simp [Value.category]) (Nat.le_of_ble_eq_true rfl) ?_
  refine q_aload_n dX0_begin_0 rfl ?_
  refine q_iload_n dX0_begin_1 rfl ?_
  refine q_iconst (v := nI 3) dX0_begin_2 (by decide) ?_
  refine q_iand dX0_begin_3 ?_
  refine q_putI ⟨fl_RX0_28, rfl, rfl⟩ (by assumption) ⟨rfl, rfl⟩ dX0_begin_4 ?_
  refine q_aload_n dX0_begin_7 rfl ?_
  refine q_iload_n dX0_begin_8 rfl ?_
  refine q_iconst (v := nI 2) dX0_begin_9 (by decide) ?_
  refine q_ishr dX0_begin_10 ?_
  refine q_iconst (v := nI 3) dX0_begin_11 (by decide) ?_
  refine q_iand dX0_begin_12 ?_
  refine q_putI ⟨fl_RX0_31, rfl, rfl⟩ (by assumption) ⟨rfl, rfl⟩ dX0_begin_13 ?_
  refine q_aload_n dX0_begin_16 rfl ?_
  refine q_iload_n dX0_begin_17 rfl ?_
  refine q_iconst (v := nI 4) dX0_begin_18 (by decide) ?_
  refine q_ishr dX0_begin_19 ?_
  refine q_putI ⟨fl_RX0_34, rfl, rfl⟩ (by assumption) ⟨rfl, rfl⟩ dX0_begin_20 ?_
  refine q_aload_n dX0_begin_23 rfl ?_
  refine q_iload_n dX0_begin_24 rfl ?_
  refine q_putI ⟨fl_RX0_37, rfl, rfl⟩ (by assumption) ⟨rfl, rfl⟩ dX0_begin_25 ?_
  refine q_aload_n dX0_begin_28 rfl ?_
  refine q_iload_n dX0_begin_29 rfl ?_
  refine q_putI ⟨fl_RX0_40, rfl, rfl⟩ (by assumption) ⟨rfl, rfl⟩ dX0_begin_30 ?_
  refine q_aload_n dX0_begin_33 rfl ?_
  refine q_iload dX0_begin_34 rfl ?_
  refine q_putI ⟨fl_RX0_43, rfl, rfl⟩ (by assumption) ⟨rfl, rfl⟩ dX0_begin_36 ?_
  refine q_aload_n dX0_begin_39 rfl ?_
  refine q_cV (as := []) lk_RX0_64 (c_reopen ha) (Or.inl ⟨0, by decide, by assumption, rfl⟩) rfl (by decide) (Nat.le_of_ble_eq_true rfl) dX0_begin_40 ?_
  rintro v J ⟨rfl, rfl⟩
  exact q_vret rfl dX0_begin_43 ⟨rfl, rfl⟩
/-- what a copy has laid so far: the slots s of a are those of o -/
def cpd (a o : Nat) (I J : q_Mem) (s : List Nat) : Prop := (∀ i, ¬ i = a → J i = I i) ∧ (∀ j ∈ s, J a j = I o j) ∧ ∀ j, j ∉ s → J a j = I a j
theorem cpd.nil {a o : Nat} {I : q_Mem} : cpd a o I I [] := ⟨fun _ _ => rfl, fun _ h => absurd h List.not_mem_nil, fun _ _ => rfl⟩
theorem cpd.up {a o j : Nat} {I J : q_Mem} {s : List Nat} (h : cpd a o I J s) : cpd a o I (q_up J a j (I o j)) (j :: s) := by
  obtain ⟨h1, h2, h3⟩ := h
  refine ⟨fun i hi => ?_, fun i hi => ?_, fun i hi => ?_⟩
  · rw [← h1 i hi]
    funext z
    exact if_neg (fun q => hi q.1)
  · by_cases e : i = j
    · subst e; exact q_up_s
    · rw [q_up_n (fun q => e q.2)]
      rcases List.mem_cons.mp hi with q | q
      · exact absurd q e
      · exact h2 i q
  · rw [q_up_n (fun q => hi (by rw [q.2]; exact List.mem_cons_self))]
    exact h3 i (fun q => hi (List.mem_cons_of_mem _ q))
theorem c_copyC {a o : Nat} {I : q_Mem} (ha : q_kd a = 0) (ho : q_kd o = 0) (hne : ¬ o = a) : q_M kX0_copyFrom [.ref a, .ref o] I (fun v J => v = none ∧ (∀ j, 2 ≤ j → j < 13 → J a j = I o j) ∧ J a 0 = I a 0 ∧ (∀ j, j < 20 → J (a + 1) j = I (o + 1) j) ∧ ∀ i, ¬ i = a → ¬ i = a + 1 → J i = I i) := by
  have ha1 : ¬ a + 1 = a := by omega
  have hoa : ¬ o + 1 = a := fun q => by have := (kC ho).1; rw [q, ha] at this; cases this
  refine q_M.of pnX0_copyFrom (by simp [Value.category]) (Nat.le_of_ble_eq_true rfl) ?_
  have hc : cpd a o I I [] := cpd.nil
  refine q_aload_n dX0_copyFrom_0 rfl ?_
  refine q_aload_n dX0_copyFrom_1 rfl ?_
  refine q_getI fl_RX0_28 rfl (by assumption) (congrFun (hc.1 o hne) 2) dX0_copyFrom_2 ?_
  refine q_putI ⟨fl_RX0_28, rfl, rfl⟩ (by assumption) ⟨rfl, rfl⟩ dX0_copyFrom_5 ?_
  have hc := hc.up (j := 2)
  generalize q_up _ a 2 (I o 2) = J0 at hc ⊢
  refine q_aload_n dX0_copyFrom_8 rfl ?_
  refine q_aload_n dX0_copyFrom_9 rfl ?_
  refine q_getI fl_RX0_31 rfl (by assumption) (congrFun (hc.1 o hne) 3) dX0_copyFrom_10 ?_
  refine q_putI ⟨fl_RX0_31, rfl, rfl⟩ (by assumption) ⟨rfl, rfl⟩ dX0_copyFrom_13 ?_
  have hc := hc.up (j := 3)
  generalize q_up _ a 3 (I o 3) = J1 at hc ⊢
  refine q_aload_n dX0_copyFrom_16 rfl ?_
  refine q_aload_n dX0_copyFrom_17 rfl ?_
  refine q_getI fl_RX0_34 rfl (by assumption) (congrFun (hc.1 o hne) 4) dX0_copyFrom_18 ?_
  refine q_putI ⟨fl_RX0_34, rfl, rfl⟩ (by assumption) ⟨rfl, rfl⟩ dX0_copyFrom_21 ?_
  have hc := hc.up (j := 4)
  generalize q_up _ a 4 (I o 4) = J2 at hc ⊢
  refine q_aload_n dX0_copyFrom_24 rfl ?_
  refine q_aload_n dX0_copyFrom_25 rfl ?_
  refine q_getI fl_RX0_37 rfl (by assumption) (congrFun (hc.1 o hne) 5) dX0_copyFrom_26 ?_
  refine q_putI ⟨fl_RX0_37, rfl, rfl⟩ (by assumption) ⟨rfl, rfl⟩ dX0_copyFrom_29 ?_
  have hc := hc.up (j := 5)
  generalize q_up _ a 5 (I o 5) = J3 at hc ⊢
  refine q_aload_n dX0_copyFrom_32 rfl ?_
  refine q_aload_n dX0_copyFrom_33 rfl ?_
  refine q_getI fl_RX0_40 rfl (by assumption) (congrFun (hc.1 o hne) 6) dX0_copyFrom_34 ?_
  refine q_putI ⟨fl_RX0_40, rfl, rfl⟩ (by assumption) ⟨rfl, rfl⟩ dX0_copyFrom_37 ?_
  have hc := hc.up (j := 6)
  generalize q_up _ a 6 (I o 6) = J4 at hc ⊢
  refine q_aload_n dX0_copyFrom_40 rfl ?_
  refine q_aload_n dX0_copyFrom_41 rfl ?_
  refine q_getI fl_RX0_43 rfl (by assumption) (congrFun (hc.1 o hne) 7) dX0_copyFrom_42 ?_
  refine q_putI ⟨fl_RX0_43, rfl, rfl⟩ (by assumption) ⟨rfl, rfl⟩ dX0_copyFrom_45 ?_
  have hc := hc.up (j := 7)
  generalize q_up _ a 7 (I o 7) = J5 at hc ⊢
  refine q_aload_n dX0_copyFrom_48 rfl ?_
  refine q_aload_n dX0_copyFrom_49 rfl ?_
  refine q_getI fl_RX0_15 rfl (by assumption) (congrFun (hc.1 o hne) 8) dX0_copyFrom_50 ?_
  refine q_putI ⟨fl_RX0_15, rfl, rfl⟩ (by assumption) ⟨rfl, rfl⟩ dX0_copyFrom_53 ?_
  have hc := hc.up (j := 8)
  generalize q_up _ a 8 (I o 8) = J6 at hc ⊢
  refine q_aload_n dX0_copyFrom_56 rfl ?_
  refine q_aload_n dX0_copyFrom_57 rfl ?_
  refine q_getI fl_RX0_46 rfl (by assumption) (congrFun (hc.1 o hne) 9) dX0_copyFrom_58 ?_
  refine q_putI ⟨fl_RX0_46, rfl, rfl⟩ (by assumption) ⟨rfl, rfl⟩ dX0_copyFrom_61 ?_
  have hc := hc.up (j := 9)
  generalize q_up _ a 9 (I o 9) = J7 at hc ⊢
  refine q_aload_n dX0_copyFrom_64 rfl ?_
  refine q_aload_n dX0_copyFrom_65 rfl ?_
  refine q_getI fl_RX0_19 rfl (by assumption) (congrFun (hc.1 o hne) 10) dX0_copyFrom_66 ?_
  refine q_putI ⟨fl_RX0_19, rfl, rfl⟩ (by assumption) ⟨rfl, rfl⟩ dX0_copyFrom_69 ?_
  have hc := hc.up (j := 10)
  generalize q_up _ a 10 (I o 10) = J8 at hc ⊢
  refine q_aload_n dX0_copyFrom_72 rfl ?_
  refine q_aload_n dX0_copyFrom_73 rfl ?_
  refine q_getI fl_RX0_22 rfl (by assumption) (congrFun (hc.1 o hne) 11) dX0_copyFrom_74 ?_
  refine q_putI ⟨fl_RX0_22, rfl, rfl⟩ (by assumption) ⟨rfl, rfl⟩ dX0_copyFrom_77 ?_
  have hc := hc.up (j := 11)
  generalize q_up _ a 11 (I o 11) = J9 at hc ⊢
  refine q_aload_n dX0_copyFrom_80 rfl ?_
  refine q_aload_n dX0_copyFrom_81 rfl ?_
  refine q_getI fl_RX0_49 rfl (by assumption) (congrFun (hc.1 o hne) 12) dX0_copyFrom_82 ?_
  refine q_putI ⟨fl_RX0_49, rfl, rfl⟩ (by assumption) ⟨rfl, rfl⟩ dX0_copyFrom_85 ?_
  have hc := hc.up (j := 12)
  generalize q_up _ a 12 (I o 12) = J10 at hc ⊢
  refine q_aload_n dX0_copyFrom_88 rfl ?_
  refine q_getR fl_RX0_9 rfl (by assumption) dX0_copyFrom_89 ?_
  refine q_iconst (v := nI 0) dX0_copyFrom_92 (by decide) ?_
  refine q_aload_n dX0_copyFrom_93 rfl ?_
  refine q_getR fl_RX0_9 rfl (by assumption) dX0_copyFrom_94 ?_
  refine q_iconst (v := nI 0) dX0_copyFrom_97 (by decide) ?_
  refine q_aload_n dX0_copyFrom_98 rfl ?_
  refine q_getR fl_RX0_9 rfl (by assumption) dX0_copyFrom_99 ?_
  refine q_lenM ho rfl dX0_copyFrom_102 ?_
  refine q_aload_n dX0_copyFrom_103 rfl ?_
  refine q_getR fl_RX0_9 rfl (by assumption) dX0_copyFrom_104 ?_
  refine q_lenM ha rfl dX0_copyFrom_107 ?_
  refine q_mmin lk_RX0_52 (by decide) (Nat.le_of_ble_eq_true rfl) dX0_copyFrom_108 ?_
  rw [ite_self]
  refine q_copy (n := 20) lk_RX0_58 (kC ho).1 (kC ha).1 (by rw [(kC ho).2]; exact Nat.le_refl _) (by rw [(kC ha).2]; exact Nat.le_refl _) (by decide) (by decide) (Nat.le_of_ble_eq_true rfl) dX0_copyFrom_111 (fun J hJ => ?_)
  refine q_vret rfl dX0_copyFrom_114 ⟨rfl, fun j h2 h13 => ?_, ?_, fun j hj => ?_, fun i h1 h2 => ?_⟩
  · rw [hJ, if_neg (fun q => by omega)]
    exact hc.2.1 j (by simp only [List.mem_cons]; omega)
  · rw [hJ, if_neg (fun q => by omega)]
    exact hc.2.2 0 (by simp)
  · rw [hJ, if_pos ⟨rfl, hj⟩]
    exact congrFun (hc.1 (o + 1) hoa) j
  · funext j
    rw [hJ, if_neg (fun q => h2 q.1)]
    exact congrFun (hc.1 i h1) j
end
section
/-! the class's classes (Course): what takes loops and calls -/
theorem c_canTake {a d na nd lx ly sa sd na2 nd2 m : Nat} {I : q_Mem} (ha : q_kd a = 0) (hd : q_kd d = 0) (h0 : I a 0 = nI na) (h1 : I d 0 = nI nd) (hs0 : I a 2 = nI sa) (hs1 : I d 2 = nI sd) (hx : I a 3 = nI lx) (hy : I d 3 = nI ly) (hm0 : I a 12 = nI na2) (hm1 : I d 12 = nI nd2) (hm : I a 6 = nI m)
    (b0 : na < 2 ^ 30) (b1 : nd < 2 ^ 30) (b2 : sa < 2 ^ 30) (b3 : sd < 2 ^ 30) (b4 : lx < 2 ^ 30) (b5 : ly < 2 ^ 30) (b6 : na2 < 2 ^ 30) (b7 : nd2 < 2 ^ 30) (b8 : m < 2 ^ 30) :
    q_M kX0_canTake [.ref a, .ref d] I (fun v J => v = some (.int (if I a 8 = 0 ∧ ¬ na = nd ∧ sa = sd ∧ (if lx > ly then lx - ly else ly - lx) ≤ 1 ∧ na2 + nd2 ≤ m then 1 else 0)) ∧ I = J) := by
  refine q_M.of pnX0_canTake (by simp [Value.category]) (Nat.le_of_ble_eq_true rfl) ?_
  refine q_aload_n dX0_canTake_0 rfl ?_
  refine q_getI fl_RX0_15 rfl (by assumption) rfl dX0_canTake_1 ?_
  refine q_if_ne (tgt := 58) dX0_canTake_4 (by decide) (fun h => ?_) (fun h => ?_)
  · refine q_iconst (v := nI 0) dX0_canTake_58 (by decide) ?_
    exact q_iret rfl rfl dX0_canTake_59 ⟨by rw [if_neg (fun q => h q.1)]; rfl, rfl⟩
  refine q_aload_n dX0_canTake_7 rfl ?_
  refine q_getI fl_RX0_25 rfl (by assumption) h0 dX0_canTake_8 ?_
  refine q_aload_n dX0_canTake_11 rfl ?_
  refine q_getI fl_RX0_25 rfl (by assumption) h1 dX0_canTake_12 ?_
  refine q_icmp_eqN (tgt := 58) (by omega) (by omega) dX0_canTake_15 (by decide) (fun h2 => ?_) (fun h2 => ?_)
  · refine q_iconst (v := nI 0) dX0_canTake_58 (by decide) ?_
    exact q_iret rfl rfl dX0_canTake_59 ⟨by rw [if_neg (fun q => q.2.1 h2)]; rfl, rfl⟩
  refine q_aload_n dX0_canTake_18 rfl ?_
  refine q_getI fl_RX0_28 rfl (by assumption) hs0 dX0_canTake_19 ?_
  refine q_aload_n dX0_canTake_22 rfl ?_
  refine q_getI fl_RX0_28 rfl (by assumption) hs1 dX0_canTake_23 ?_
  refine q_icmp_neN (tgt := 58) (by omega) (by omega) dX0_canTake_26 (by decide) (fun h3 => ?_) (fun h3 => ?_)
  · refine q_iconst (v := nI 0) dX0_canTake_58 (by decide) ?_
    exact q_iret rfl rfl dX0_canTake_59 ⟨by rw [if_neg (fun q => h3 q.2.2.1)]; rfl, rfl⟩
  refine q_aload_n dX0_canTake_29 rfl ?_
  refine q_aload_n dX0_canTake_30 rfl ?_
  refine q_cV (as := [_]) lk_RX0_67 (c_levels ha hd hx hy b4 b5) (Or.inl ⟨0, by decide, by assumption, rfl⟩) rfl (by decide) (Nat.le_of_ble_eq_true rfl) dX0_canTake_31 ?_
  rintro v J ⟨rfl, rfl⟩
  refine q_iconst (v := nI 1) dX0_canTake_34 (by decide) ?_
  have hb : (if lx > ly then lx - ly else ly - lx) < 2 ^ 31 := by split <;> omega
  refine q_icmp_gtN (tgt := 58) hb (by omega) dX0_canTake_35 (by decide) (fun h4 => ?_) (fun h4 => ?_)
  · refine q_iconst (v := nI 0) dX0_canTake_58 (by decide) ?_
    exact q_iret rfl rfl dX0_canTake_59 ⟨by rw [if_neg (fun q => absurd q.2.2.2.1 (by omega))]; rfl, rfl⟩
  refine q_aload_n dX0_canTake_38 rfl ?_
  refine q_getI fl_RX0_49 rfl (by assumption) hm0 dX0_canTake_39 ?_
  refine q_aload_n dX0_canTake_42 rfl ?_
  refine q_getI fl_RX0_49 rfl (by assumption) hm1 dX0_canTake_43 ?_
  refine q_iadd dX0_canTake_46 ?_
  rw [nI_add]
  refine q_aload_n dX0_canTake_47 rfl ?_
  refine q_getI fl_RX0_40 rfl (by assumption) hm dX0_canTake_48 ?_
  refine q_icmp_gtN (tgt := 58) (by omega) (by omega) dX0_canTake_51 (by decide) (fun h5 => ?_) (fun h5 => ?_)
  · refine q_iconst (v := nI 0) dX0_canTake_58 (by decide) ?_
    exact q_iret rfl rfl dX0_canTake_59 ⟨by rw [if_neg (fun q => by omega)]; rfl, rfl⟩
  refine q_iconst (v := nI 1) dX0_canTake_54 (by decide) ?_
  refine q_goto (tgt := 59) dX0_canTake_55 (by decide) ?_
  exact q_iret rfl rfl dX0_canTake_59 ⟨by rw [if_pos ⟨h, h2, h3, h4, h5⟩]; rfl, rfl⟩
/-- the members without one: how far the loop is -/
def rmd (a x n : Nat) (l : List Nat) (I J : q_Mem) (i k : Nat) : Prop := (∀ i j, ¬ i = a + 1 → J i j = I i j) ∧ ((l.take i).filter (· != x)).length = k ∧ (∀ r v, ((l.take i).filter (· != x))[r]? = some v → J (a + 1) r = nI v) ∧ ∀ r, i ≤ r → J (a + 1) r = I (a + 1) r
theorem q_pc {k : q_MI} {pc pc' : Nat} {ls : List (Option Value)} {st : List Value} {I : q_Mem} {Q : Option Value → q_Mem → Prop} (h : pc = pc') (hx : q_X k pc' ls st I Q) : q_X k pc ls st I Q := h ▸ hx
theorem c_remove {a x : Nat} {l : List Nat} {I : q_Mem} (ha : q_kd a = 0) (hs : I a 12 = nI l.length) (hm : ∀ r v, l[r]? = some v → I (a + 1) r = nI v) (hl : l.length ≤ 20) (hb : ∀ v ∈ l, v < 2 ^ 31) (hx : x < 2 ^ 31) :
    q_M kX0_remove [.ref a, .int (nI x)] I (fun v J => v = none ∧ J a 12 = nI (l.filter (· != x)).length ∧ (∀ r v, (l.filter (· != x))[r]? = some v → J (a + 1) r = nI v) ∧ ∀ i j, ¬ i = a + 1 → ¬ (i = a ∧ j = 12) → J i j = I i j) := by
  have key : ∀ (d i k : Nat) (J : q_Mem), i + d = l.length → rmd a x l.length l I J i k → q_X kX0_remove 4 [some (.ref a), some (.int (nI x)), some (.int (nI k)), some (.int (nI i))] [] J (fun v J => v = none ∧ J a 12 = nI (l.filter (· != x)).length ∧ (∀ r v, (l.filter (· != x))[r]? = some v → J (a + 1) r = nI v) ∧ ∀ i j, ¬ i = a + 1 → ¬ (i = a ∧ j = 12) → J i j = I i j) := by
    intro d
    induction d with
    | zero =>
      intro i k J hd hr
      obtain ⟨r1, r2, r3, r4⟩ := hr
      have hz : J a 12 = nI l.length := (r1 a 12 (by omega)).trans hs
      refine q_iload_n dX0_remove_4 rfl ?_
      refine q_aload_n dX0_remove_5 rfl ?_
      refine q_getI fl_RX0_49 rfl (by assumption) hz dX0_remove_6 ?_
      refine q_icmp_geN (tgt := 61) (by omega) (by omega) dX0_remove_9 (by decide) (fun h => ?_) (fun h => ?_)
      · rw [show i = l.length by omega, List.take_length] at r2 r3
        refine q_aload_n dX0_remove_61 rfl ?_
        refine q_iload_n dX0_remove_62 rfl ?_
        refine q_putI ⟨fl_RX0_49, rfl, rfl⟩ (by assumption) ⟨rfl, rfl⟩ dX0_remove_63 ?_
        refine q_vret rfl dX0_remove_66 ⟨rfl, by rw [q_up_s, r2], fun r v h => ?_, fun i j h1 h2 => ?_⟩
        · rw [q_up_n (by omega)]; exact r3 r v h
        · rw [q_up_n h2]; exact r1 i j h1
      · omega
    | succ d ih =>
      intro i k J hd hr
      obtain ⟨r1, r2, r3, r4⟩ := hr
      have hz : J a 12 = nI l.length := (r1 a 12 (by omega)).trans hs
      have hil : i < l.length := by omega
      have hki : k ≤ i := by
        rw [← r2]
        exact Nat.le_trans (List.length_filter_le _ _) (by rw [List.length_take]; omega)
      obtain ⟨w, hw⟩ : ∃ w, l[i]? = some w := ⟨_, List.getElem?_eq_getElem hil⟩
      have hwv : J (a + 1) i = nI w := (r4 i (Nat.le_refl i)).trans (hm i w hw)
      have hwb : w < 2 ^ 31 := hb w (List.mem_of_getElem? hw)
      have htk : (l.take (i + 1)).filter (· != x) = (l.take i).filter (· != x) ++ (if w = x then [] else [w]) := by
        rw [List.take_add_one, hw, Option.toList_some, List.filter_append]
        by_cases e : w = x
        · subst e; simp
        · simp [e]
      refine q_iload_n dX0_remove_4 rfl ?_
      refine q_aload_n dX0_remove_5 rfl ?_
      refine q_getI fl_RX0_49 rfl (by assumption) hz dX0_remove_6 ?_
      refine q_icmp_geN (tgt := 61) (by omega) (by omega) dX0_remove_9 (by decide) (fun h => ?_) (fun h => ?_)
      · omega
      refine q_iload_n dX0_remove_12 rfl ?_
      refine q_aload_n dX0_remove_13 rfl ?_
      refine q_getR fl_RX0_9 rfl (by assumption) dX0_remove_14 ?_
      refine q_lenM ha rfl dX0_remove_17 ?_
      refine q_icmp_geN (tgt := 61) (by omega) (by omega) dX0_remove_18 (by decide) (fun h => ?_) (fun h => ?_)
      · omega
      refine q_aload_n dX0_remove_21 rfl ?_
      refine q_getR fl_RX0_9 rfl (by assumption) dX0_remove_22 ?_
      refine q_iload_n dX0_remove_25 rfl ?_
      refine q_ialdM ha rfl (i := i) (by omega) hwv dX0_remove_26 ?_
      refine q_iload_n dX0_remove_27 rfl ?_
      refine q_icmp_eqN (tgt := 55) hwb hx dX0_remove_28 (by decide) (fun h => ?_) (fun h => ?_)
      · refine q_iinc (ls' := [_, _, _, _]) dX0_remove_55 rfl (nI_add _ 1) rfl ?_
        refine q_goto (tgt := 4) dX0_remove_58 (by decide) ?_
        refine ih (i + 1) k J (by omega) ⟨r1, by rw [htk, if_pos h, List.append_nil]; exact r2, by rw [htk, if_pos h, List.append_nil]; exact r3, fun r hr => r4 r (by omega)⟩
      · refine q_iload_n dX0_remove_31 rfl ?_
        refine q_aload_n dX0_remove_32 rfl ?_
        refine q_getR fl_RX0_9 rfl (by assumption) dX0_remove_33 ?_
        refine q_lenM ha rfl dX0_remove_36 ?_
        refine q_icmp_geN (tgt := 55) (by omega) (by omega) dX0_remove_37 (by decide) (fun h5 => ?_) (fun h5 => ?_)
        · omega
        refine q_aload_n dX0_remove_40 rfl ?_
        refine q_getR fl_RX0_9 rfl (by assumption) dX0_remove_41 ?_
        refine q_iload_n dX0_remove_44 rfl ?_
        refine q_aload_n dX0_remove_45 rfl ?_
        refine q_getR fl_RX0_9 rfl (by assumption) dX0_remove_46 ?_
        refine q_iload_n dX0_remove_49 rfl ?_
        refine q_ialdM ha rfl (i := i) (by omega) hwv dX0_remove_50 ?_
        refine q_iastM ha rfl (i := k) (by omega) dX0_remove_51 ?_
        refine q_iinc (ls' := [_, _, _, _]) dX0_remove_52 rfl (nI_add _ 1) rfl ?_
        refine q_iinc (ls' := [_, _, _, _]) dX0_remove_55 rfl (nI_add _ 1) rfl ?_
        refine q_goto (tgt := 4) dX0_remove_58 (by decide) ?_
        refine ih (i + 1) (k + 1) _ (by omega) ⟨fun i j h1 => by rw [q_up_n (by omega)]; exact r1 i j h1, by rw [htk, if_neg h, List.length_append, r2]; rfl, fun r v hv => ?_, fun r hr => by rw [q_up_n (by omega)]; exact r4 r (by omega)⟩
        rw [htk, if_neg h] at hv
        by_cases e : r = k
        · subst e
          rw [← r2, List.getElem?_append_right (Nat.le_refl _), Nat.sub_self] at hv
          cases hv
          exact q_up_s
        · rw [q_up_n (fun q => e q.2)]
          refine r3 r v ?_
          rcases Nat.lt_or_ge r k with q | q
          · rwa [List.getElem?_append_left (by rw [r2]; exact q)] at hv
          · rw [List.getElem?_append_right (by rw [r2]; exact q), r2, List.getElem?_eq_none (by simp; omega)] at hv
            cases hv
  refine q_M.of pnX0_remove (by simp [Value.category]) (Nat.le_of_ble_eq_true rfl) ?_
  refine q_iconst (v := nI 0) dX0_remove_0 (by decide) ?_
  refine q_istore_n (ls' := [_, _, _, _]) dX0_remove_1 (Nat.le_of_ble_eq_true rfl) rfl ?_
  refine q_iconst (v := nI 0) dX0_remove_2 (by decide) ?_
  refine q_istore_n (ls' := [_, _, _, _]) dX0_remove_3 (Nat.le_of_ble_eq_true rfl) rfl ?_
  exact key l.length 0 0 I (by omega) ⟨fun _ _ _ => rfl, rfl, fun r v h => by simp at h, fun _ _ => rfl⟩
end
section
/-! the class's people (Person) -/
theorem c_setWishes {a : Nat} {x y z : Int32} {I : q_Mem} (ha : q_kd a = 2) : q_M kX2_setWishes [.ref a, .int x, .int y, .int z] I (fun v J => v = none ∧ J = q_up (q_up (q_up I a 5 x) a 6 y) a 7 z) := by
  refine q_M.of pnX2_setWishes (by simp [Value.category]) (Nat.le_of_ble_eq_true rfl) ?_
  refine q_aload_n dX2_setWishes_0 rfl ?_
  refine q_iload_n dX2_setWishes_1 rfl ?_
  refine q_putI ⟨fl_RX2_15, rfl, rfl⟩ (by assumption) ⟨rfl, rfl⟩ dX2_setWishes_2 ?_
  refine q_aload_n dX2_setWishes_5 rfl ?_
  refine q_iload_n dX2_setWishes_6 rfl ?_
  refine q_putI ⟨fl_RX2_18, rfl, rfl⟩ (by assumption) ⟨rfl, rfl⟩ dX2_setWishes_7 ?_
  refine q_aload_n dX2_setWishes_10 rfl ?_
  refine q_iload_n dX2_setWishes_11 rfl ?_
  refine q_putI ⟨fl_RX2_21, rfl, rfl⟩ (by assumption) ⟨rfl, rfl⟩ dX2_setWishes_12 ?_
  exact q_vret rfl dX2_setWishes_15 ⟨rfl, rfl⟩
theorem c_forget {a : Nat} {I : q_Mem} (ha : q_kd a = 2) : q_M kX2_forget [.ref a] I (fun v J => v = none ∧ J = q_up (q_up (q_up (q_up (q_up (q_up (q_up I a 1 0) a 2 (-1)) a 3 0) a 4 0) a 5 (-1)) a 6 (-1)) a 7 (-1)) := by
  refine q_M.of pnX2_forget (by simp [Value.category]) (Nat.le_of_ble_eq_true rfl) ?_
  refine q_aload_n dX2_forget_0 rfl ?_
  refine q_iconst (v := nI 0) dX2_forget_1 (by decide) ?_
  refine q_putI ⟨fl_RX2_27, rfl, rfl⟩ (by assumption) (by decide) dX2_forget_2 ?_
  refine q_aload_n dX2_forget_5 rfl ?_
  refine q_iconst (v := -1) dX2_forget_6 (by decide) ?_
  refine q_putI ⟨fl_RX2_9, rfl, rfl⟩ (by assumption) ⟨rfl, rfl⟩ dX2_forget_7 ?_
  refine q_aload_n dX2_forget_10 rfl ?_
  refine q_iconst (v := nI 0) dX2_forget_11 (by decide) ?_
  refine q_putI ⟨fl_RX2_31, rfl, rfl⟩ (by assumption) ⟨rfl, rfl⟩ dX2_forget_12 ?_
  refine q_aload_n dX2_forget_15 rfl ?_
  refine q_iconst (v := nI 0) dX2_forget_16 (by decide) ?_
  refine q_putI ⟨fl_RX2_34, rfl, rfl⟩ (by assumption) ⟨rfl, rfl⟩ dX2_forget_17 ?_
  refine q_aload_n dX2_forget_20 rfl ?_
  refine q_iconst (v := -1) dX2_forget_21 (by decide) ?_
  refine q_iconst (v := -1) dX2_forget_22 (by decide) ?_
  refine q_iconst (v := -1) dX2_forget_23 (by decide) ?_
  refine q_cV (as := [_, _, _]) lk_RX2_37 (c_setWishes ha) (Or.inl ⟨2, by decide, by assumption, rfl⟩) rfl (by decide) (Nat.le_of_ble_eq_true rfl) dX2_forget_24 ?_
  rintro v J ⟨rfl, rfl⟩
  exact q_vret rfl dX2_forget_27 ⟨rfl, rfl⟩
theorem c_wishAt {a r : Nat} {I : q_Mem} (ha : q_kd a = 2) (hr : r < 3) : q_M kX2_wishAt [.ref a, .int (nI r)] I (fun v J => v = some (.int (I a (5 + r))) ∧ I = J) := by
  refine q_M.of pnX2_wishAt (by simp [Value.category]) (Nat.le_of_ble_eq_true rfl) ?_
  refine q_iload_n dX2_wishAt_0 rfl ?_
  have hc : r = 0 ∨ r = 1 ∨ r = 2 := by omega
  rcases hc with rfl | rfl | rfl
  · refine q_tabIn (off := 27) (tgt := 28) dX2_wishAt_1 (by decide) (by decide) (by decide) (by decide) ?_
    refine q_aload_n dX2_wishAt_28 rfl ?_
    refine q_getI fl_RX2_15 rfl (by assumption) rfl dX2_wishAt_29 ?_
    exact q_iret rfl rfl dX2_wishAt_32 ⟨rfl, rfl⟩
  · refine q_tabIn (off := 32) (tgt := 33) dX2_wishAt_1 (by decide) (by decide) (by decide) (by decide) ?_
    refine q_aload_n dX2_wishAt_33 rfl ?_
    refine q_getI fl_RX2_18 rfl (by assumption) rfl dX2_wishAt_34 ?_
    exact q_iret rfl rfl dX2_wishAt_37 ⟨rfl, rfl⟩
  · refine q_tabIn (off := 37) (tgt := 38) dX2_wishAt_1 (by decide) (by decide) (by decide) (by decide) ?_
    refine q_aload_n dX2_wishAt_38 rfl ?_
    refine q_getI fl_RX2_21 rfl (by assumption) rfl dX2_wishAt_39 ?_
    exact q_iret rfl rfl dX2_wishAt_42 ⟨rfl, rfl⟩
/-- the rank of a class among three wishes -/
def rkI (w x y z : Int32) : Nat := if w = x then 0 else if w = y then 1 else if w = z then 2 else 3
theorem rkI_lt {w x y z : Int32} : rkI w x y z < 4 := by unfold rkI; split <;> (try split) <;> (try split) <;> omega
theorem c_rankOf {a : Nat} {w : Int32} {I : q_Mem} (ha : q_kd a = 2) : q_M kX2_rankOf [.ref a, .int w] I (fun v J => v = some (.int (nI (rkI w (I a 5) (I a 6) (I a 7)))) ∧ I = J) := by
  refine q_M.of pnX2_rankOf (by simp [Value.category]) (Nat.le_of_ble_eq_true rfl) ?_
  refine q_iload_n dX2_rankOf_0 rfl ?_
  refine q_aload_n dX2_rankOf_1 rfl ?_
  refine q_getI fl_RX2_15 rfl (by assumption) rfl dX2_rankOf_2 ?_
  refine q_icmp_ne (tgt := 10) dX2_rankOf_5 (by decide) (fun h => ?_) (fun h => ?_)
  · refine q_iload_n dX2_rankOf_10 rfl ?_
    refine q_aload_n dX2_rankOf_11 rfl ?_
    refine q_getI fl_RX2_18 rfl (by assumption) rfl dX2_rankOf_12 ?_
    refine q_icmp_ne (tgt := 20) dX2_rankOf_15 (by decide) (fun h2 => ?_) (fun h2 => ?_)
    · refine q_iload_n dX2_rankOf_20 rfl ?_
      refine q_aload_n dX2_rankOf_21 rfl ?_
      refine q_getI fl_RX2_21 rfl (by assumption) rfl dX2_rankOf_22 ?_
      refine q_icmp_ne (tgt := 32) dX2_rankOf_25 (by decide) (fun h3 => ?_) (fun h3 => ?_)
      · refine q_iconst (v := nI 3) dX2_rankOf_32 (by decide) ?_
        exact q_iret rfl rfl dX2_rankOf_33 ⟨by rw [rkI, if_neg h, if_neg h2, if_neg h3], rfl⟩
      · refine q_iconst (v := nI 2) dX2_rankOf_28 (by decide) ?_
        refine q_goto (tgt := 33) dX2_rankOf_29 (by decide) ?_
        exact q_iret rfl rfl dX2_rankOf_33 ⟨by rw [rkI, if_neg h, if_neg h2, if_pos h3], rfl⟩
    · refine q_iconst (v := nI 1) dX2_rankOf_18 (by decide) ?_
      exact q_iret rfl rfl dX2_rankOf_19 ⟨by rw [rkI, if_neg h, if_pos h2], rfl⟩
  · refine q_iconst (v := nI 0) dX2_rankOf_8 (by decide) ?_
    exact q_iret rfl rfl dX2_rankOf_9 ⟨by rw [rkI, if_pos h], rfl⟩
/-- the rank of what a person has -/
def rhI (w x y z : Int32) : Nat := if w = -1 then 4 else rkI w x y z
theorem rhI_lt {w x y z : Int32} : rhI w x y z < 5 := by
  unfold rhI
  have := @rkI_lt w x y z
  split <;> omega
theorem c_rankHeld {a : Nat} {I : q_Mem} (ha : q_kd a = 2) : q_M kX2_rankHeld [.ref a] I (fun v J => v = some (.int (nI (rhI (I a 2) (I a 5) (I a 6) (I a 7)))) ∧ I = J) := by
  refine q_M.of pnX2_rankHeld (by simp [Value.category]) (Nat.le_of_ble_eq_true rfl) ?_
  refine q_aload_n dX2_rankHeld_0 rfl ?_
  refine q_getI fl_RX2_9 rfl (by assumption) rfl dX2_rankHeld_1 ?_
  refine q_iconst (v := -1) dX2_rankHeld_4 (by decide) ?_
  refine q_icmp_ne (tgt := 12) dX2_rankHeld_5 (by decide) (fun h => ?_) (fun h => ?_)
  · refine q_aload_n dX2_rankHeld_12 rfl ?_
    refine q_aload_n dX2_rankHeld_13 rfl ?_
    refine q_getI fl_RX2_9 rfl (by assumption) rfl dX2_rankHeld_14 ?_
    refine q_cV (as := [_]) lk_RX2_41 (c_rankOf ha) (Or.inl ⟨2, by decide, by assumption, rfl⟩) rfl (by decide) (Nat.le_of_ble_eq_true rfl) dX2_rankHeld_17 ?_
    rintro v J ⟨rfl, rfl⟩
    exact q_iret rfl rfl dX2_rankHeld_20 ⟨by rw [rhI, if_neg h], rfl⟩
  · refine q_iconst (v := nI 4) dX2_rankHeld_8 (by decide) ?_
    refine q_goto (tgt := 20) dX2_rankHeld_9 (by decide) ?_
    exact q_iret rfl rfl dX2_rankHeld_20 ⟨by rw [rhI, if_pos h], rfl⟩
theorem c_waitsFor {a : Nat} {w : Int32} {I : q_Mem} (ha : q_kd a = 2) : q_M kX2_waitsFor [.ref a, .int w] I (fun v J => v = some (.int (if ¬ I a 1 = 0 ∧ rkI w (I a 5) (I a 6) (I a 7) < 3 ∧ rkI w (I a 5) (I a 6) (I a 7) < rhI (I a 2) (I a 5) (I a 6) (I a 7) then 1 else 0)) ∧ I = J) := by
  have h1 := @rkI_lt w (I a 5) (I a 6) (I a 7)
  have h2 := @rhI_lt (I a 2) (I a 5) (I a 6) (I a 7)
  refine q_M.of pnX2_waitsFor (by simp [Value.category]) (Nat.le_of_ble_eq_true rfl) ?_
  refine q_aload_n dX2_waitsFor_0 rfl ?_
  refine q_iload_n dX2_waitsFor_1 rfl ?_
  refine q_cV (as := [_]) lk_RX2_41 (c_rankOf ha) (Or.inl ⟨2, by decide, by assumption, rfl⟩) rfl (by decide) (Nat.le_of_ble_eq_true rfl) dX2_waitsFor_2 ?_
  rintro v J ⟨rfl, rfl⟩
  refine q_istore_n (ls' := [_, _, _]) dX2_waitsFor_5 (Nat.le_of_ble_eq_true rfl) rfl ?_
  refine q_aload_n dX2_waitsFor_6 rfl ?_
  refine q_getI fl_RX2_27 rfl (by assumption) rfl dX2_waitsFor_7 ?_
  refine q_if_eq (tgt := 30) dX2_waitsFor_10 (by decide) (fun h => ?_) (fun h => ?_)
  · refine q_iconst (v := nI 0) dX2_waitsFor_30 (by decide) ?_
    exact q_iret rfl rfl dX2_waitsFor_31 ⟨by rw [if_neg (fun q => q.1 h)]; rfl, rfl⟩
  refine q_iload_n dX2_waitsFor_13 rfl ?_
  refine q_iconst (v := nI 3) dX2_waitsFor_14 (by decide) ?_
  refine q_icmp_geN (tgt := 30) (by omega) (by omega) dX2_waitsFor_15 (by decide) (fun h3 => ?_) (fun h3 => ?_)
  · refine q_iconst (v := nI 0) dX2_waitsFor_30 (by decide) ?_
    exact q_iret rfl rfl dX2_waitsFor_31 ⟨by rw [if_neg (fun q => by omega)]; rfl, rfl⟩
  refine q_iload_n dX2_waitsFor_18 rfl ?_
  refine q_aload_n dX2_waitsFor_19 rfl ?_
  refine q_cV (as := []) lk_RX2_45 (c_rankHeld ha) (Or.inl ⟨2, by decide, by assumption, rfl⟩) rfl (by decide) (Nat.le_of_ble_eq_true rfl) dX2_waitsFor_20 ?_
  rintro v J ⟨rfl, rfl⟩
  refine q_icmp_geN (tgt := 30) (by omega) (by omega) dX2_waitsFor_23 (by decide) (fun h4 => ?_) (fun h4 => ?_)
  · refine q_iconst (v := nI 0) dX2_waitsFor_30 (by decide) ?_
    exact q_iret rfl rfl dX2_waitsFor_31 ⟨by rw [if_neg (fun q => by omega)]; rfl, rfl⟩
  · refine q_iconst (v := nI 1) dX2_waitsFor_26 (by decide) ?_
    refine q_goto (tgt := 31) dX2_waitsFor_27 (by decide) ?_
    exact q_iret rfl rfl dX2_waitsFor_31 ⟨by rw [if_pos ⟨h, h3, h4⟩]; rfl, rfl⟩
theorem bool_ok {x : Int32} (h : x = 0 ∨ x = 1) : narrow .boolean (.int x) = .int x ∧ fits .boolean (.int x) = true := by
  rcases h with rfl | rfl <;> decide
theorem c_copyP {a o : Nat} {I : q_Mem} (ha : q_kd a = 2) (ho : q_kd o = 2) (hne : ¬ o = a) (hb : I o 1 = 0 ∨ I o 1 = 1) : q_M kX2_copyFrom [.ref a, .ref o] I (fun v J => v = none ∧ (∀ j, 1 ≤ j → j < 8 → J a j = I o j) ∧ J a 0 = I a 0 ∧ ∀ i, ¬ i = a → J i = I i) := by
  refine q_M.of pnX2_copyFrom (by simp [Value.category]) (Nat.le_of_ble_eq_true rfl) ?_
  have hc : cpd a o I I [] := cpd.nil
  refine q_aload_n dX2_copyFrom_0 rfl ?_
  refine q_aload_n dX2_copyFrom_1 rfl ?_
  refine q_getI fl_RX2_27 rfl (by assumption) (congrFun (hc.1 o hne) 1) dX2_copyFrom_2 ?_
  refine q_putI ⟨fl_RX2_27, rfl, rfl⟩ (by assumption) (bool_ok hb) dX2_copyFrom_5 ?_
  have hc := hc.up (j := 1)
  generalize q_up _ a 1 (I o 1) = J0 at hc ⊢
  refine q_aload_n dX2_copyFrom_8 rfl ?_
  refine q_aload_n dX2_copyFrom_9 rfl ?_
  refine q_getI fl_RX2_9 rfl (by assumption) (congrFun (hc.1 o hne) 2) dX2_copyFrom_10 ?_
  refine q_putI ⟨fl_RX2_9, rfl, rfl⟩ (by assumption) ⟨rfl, rfl⟩ dX2_copyFrom_13 ?_
  have hc := hc.up (j := 2)
  generalize q_up _ a 2 (I o 2) = J1 at hc ⊢
  refine q_aload_n dX2_copyFrom_16 rfl ?_
  refine q_aload_n dX2_copyFrom_17 rfl ?_
  refine q_getI fl_RX2_31 rfl (by assumption) (congrFun (hc.1 o hne) 3) dX2_copyFrom_18 ?_
  refine q_putI ⟨fl_RX2_31, rfl, rfl⟩ (by assumption) ⟨rfl, rfl⟩ dX2_copyFrom_21 ?_
  have hc := hc.up (j := 3)
  generalize q_up _ a 3 (I o 3) = J2 at hc ⊢
  refine q_aload_n dX2_copyFrom_24 rfl ?_
  refine q_aload_n dX2_copyFrom_25 rfl ?_
  refine q_getI fl_RX2_34 rfl (by assumption) (congrFun (hc.1 o hne) 4) dX2_copyFrom_26 ?_
  refine q_putI ⟨fl_RX2_34, rfl, rfl⟩ (by assumption) ⟨rfl, rfl⟩ dX2_copyFrom_29 ?_
  have hc := hc.up (j := 4)
  generalize q_up _ a 4 (I o 4) = J3 at hc ⊢
  refine q_aload_n dX2_copyFrom_32 rfl ?_
  refine q_aload_n dX2_copyFrom_33 rfl ?_
  refine q_getI fl_RX2_15 rfl (by assumption) (congrFun (hc.1 o hne) 5) dX2_copyFrom_34 ?_
  refine q_putI ⟨fl_RX2_15, rfl, rfl⟩ (by assumption) ⟨rfl, rfl⟩ dX2_copyFrom_37 ?_
  have hc := hc.up (j := 5)
  generalize q_up _ a 5 (I o 5) = J4 at hc ⊢
  refine q_aload_n dX2_copyFrom_40 rfl ?_
  refine q_aload_n dX2_copyFrom_41 rfl ?_
  refine q_getI fl_RX2_18 rfl (by assumption) (congrFun (hc.1 o hne) 6) dX2_copyFrom_42 ?_
  refine q_putI ⟨fl_RX2_18, rfl, rfl⟩ (by assumption) ⟨rfl, rfl⟩ dX2_copyFrom_45 ?_
  have hc := hc.up (j := 6)
  generalize q_up _ a 6 (I o 6) = J5 at hc ⊢
  refine q_aload_n dX2_copyFrom_48 rfl ?_
  refine q_aload_n dX2_copyFrom_49 rfl ?_
  refine q_getI fl_RX2_21 rfl (by assumption) (congrFun (hc.1 o hne) 7) dX2_copyFrom_50 ?_
  refine q_putI ⟨fl_RX2_21, rfl, rfl⟩ (by assumption) ⟨rfl, rfl⟩ dX2_copyFrom_53 ?_
  have hc := hc.up (j := 7)
  generalize q_up _ a 7 (I o 7) = J6 at hc ⊢
  refine q_vret rfl dX2_copyFrom_56 ⟨rfl, fun j h2 h13 => hc.2.1 j (by simp only [List.mem_cons]; omega), hc.2.2 0 (by simp), fun i h1 => hc.1 i h1⟩
end
section
/-! WHAT THE CALLS DO TO A SEASON -/
abbrev sLen (σ : q_S) (c : Nat) : Nat := (sL σ c).length
def crg (σ : q_S) (c : Nat) : Prop := sC σ c 0 < 4 ∧ sC σ c 1 < 4 ∧ sC σ c 2 < 5 ∧ sC σ c 3 ≤ 20 ∧ sC σ c 4 ≤ 20 ∧ sC σ c 5 ≤ 99 ∧ sC σ c 6 ≤ 4 ∧ sC σ c 7 ≤ 5 ∧ sC σ c 8 ≤ 8 ∧ sC σ c 9 ≤ 3 ∧ sLen σ c ≤ sC σ c 4
def prg (σ : q_S) (p : Nat) : Prop := sP σ p 0 ≤ 1 ∧ sP σ p 1 ≤ sN σ 0 ∧ sP σ p 2 ≤ sN σ 0 ∧ sP σ p 3 ≤ sN σ 0 ∧ sP σ p 4 ≤ sN σ 0 ∧ sP σ p 5 ≤ 99 ∧ (sP σ p 4 = 0 → sP σ p 5 = 0) ∧ (sP σ p 0 = 0 → sP σ p 4 = 0) ∧ (sP σ p 2 = 0 → sP σ p 3 = 0) ∧ (p < sN σ 2 → ¬ sP σ p 1 = 0)
/-- what holds of every season -/
def WFc (σ : q_S) : Prop := sB σ ∧ (∀ c, c < 8 → crg σ c) ∧ (∀ c, sN σ 0 ≤ c → sC σ c 6 = 0 ∧ sC σ c 7 = 0 ∧ sL σ c = []) ∧ (∀ c, c < sN σ 0 → 1 ≤ sC σ c 6) ∧ (∀ p, prg σ p) ∧ (∀ p, sN σ 2 ≤ p → ∀ j, sP σ p j = 0) ∧ (∀ c, (sL σ c).Nodup ∧ ∀ p, p ∈ sL σ c ↔ sP σ p 4 = c + 1) ∧ ∀ r, r < 5 → sR σ r ≤ 30
theorem WFc.B {σ : q_S} (h : WFc σ) : sB σ := h.1
theorem WFc.cr {σ : q_S} (h : WFc σ) {c : Nat} (hc : c < 8) : crg σ c := h.2.1 c hc
theorem WFc.pr {σ : q_S} (h : WFc σ) (p : Nat) : prg σ p := h.2.2.2.2.1 p
theorem WFc.len {σ : q_S} (h : WFc σ) (c : Nat) : sLen σ c ≤ 20 := h.1.2.2.2 c
theorem WFc.mem {σ : q_S} (h : WFc σ) {c p : Nat} : p ∈ sL σ c ↔ sP σ p 4 = c + 1 := (h.2.2.2.2.2.2.1 c).2 p
theorem WFc.nd {σ : q_S} (h : WFc σ) (c : Nat) : (sL σ c).Nodup := (h.2.2.2.2.2.2.1 c).1
theorem WFc.zero {σ : q_S} (h : WFc σ) {p : Nat} (hp : sN σ 2 ≤ p) (j : Nat) : sP σ p j = 0 := h.2.2.2.2.2.1 p hp j
theorem WFc.mlt {σ : q_S} (h : WFc σ) {c p : Nat} (hm : p ∈ sL σ c) : p < sN σ 2 := by
  rcases Nat.lt_or_ge p (sN σ 2) with q | q
  · exact q
  · have := h.mem.mp hm
    rw [h.zero q 4] at this
    omega
theorem WFc.mlt30 {σ : q_S} (h : WFc σ) {c p : Nat} (hm : p ∈ sL σ c) : p < 30 := Nat.lt_of_lt_of_le (h.mlt hm) h.B.2.2.1
/-- a wish with a free place -/
abbrev sfr (σ : q_S) (w : Nat) : Prop := ¬ w = 0 ∧ sC σ (w - 1) 6 = 1 ∧ sLen σ (w - 1) < sC σ (w - 1) 4
/-- the wish that is better than what a person has, and has a free place; 0 for none -/
def sbet (σ : q_S) (p : Nat) : Nat :=
  if sP σ p 0 = 0 then 0 else if sP σ p 1 = sP σ p 4 then 0 else if sfr σ (sP σ p 1) then sP σ p 1 else if sP σ p 2 = sP σ p 4 then 0 else if sfr σ (sP σ p 2) then sP σ p 2 else if sP σ p 3 = sP σ p 4 then 0 else if sfr σ (sP σ p 3) then sP σ p 3 else 0
/-- away from the class, into a class -/
def sout (σ : q_S) (p : Nat) : q_S := if sP σ p 4 = 0 then σ else (sN σ, f1 (sG σ) 3 (sG σ 3 + sP σ p 5), sC σ, f1 (sL σ) (sP σ p 4 - 1) ((sL σ (sP σ p 4 - 1)).filter (· != p)), f2 (f2 (sP σ) p 4 0) p 5 0, sR σ)
def sin (σ : q_S) (p c : Nat) : q_S := (sN σ, f1 (f1 (sG σ) 2 (sG σ 2 + sC σ c 5)) 5 (sG σ 5 + 1), sC σ, f1 (sL σ) c (sL σ c ++ [p]), f2 (f2 (f2 (sP σ) p 4 (c + 1)) p 5 (sC σ c 5)) p 6 (sP σ p 6 + 1), sR σ)
/-- the first person from k on, d of them, who has a better wish; k + d if none has -/
def spk (σ : q_S) : Nat → Nat → Nat
  | 0, k => k
  | d + 1, k => if sbet σ k = 0 then spk σ d (k + 1) else k
def smove (σ : q_S) (p : Nat) : q_S := sin (sout σ p) p (sbet σ p - 1)
def sset : Nat → q_S → q_S
  | 0, σ => σ
  | n + 1, σ => if spk σ (sN σ 2) 0 < sN σ 2 then sset n (smove σ (spk σ (sN σ 2) 0)) else σ
/-- the open_ class that is too small, of the first k: its number + 1, or 0 -/
def ssm (σ : q_S) : Nat → Nat
  | 0 => 0
  | k + 1 => if sC σ k 6 = 1 ∧ sLen σ k < sC σ k 3 ∧ (ssm σ k = 0 ∨ sLen σ k < sLen σ (ssm σ k - 1)) then k + 1 else ssm σ k
def slv (σ : q_S) (c d : Nat) : Nat := if sC σ c 1 > sC σ d 1 then sC σ c 1 - sC σ d 1 else sC σ d 1 - sC σ c 1
/-- the class_ into which c would be merged, of the first k -/
def sft (σ : q_S) (c : Nat) : Nat → Nat
  | 0 => 0
  | k + 1 => if 0 < sLen σ c ∧ (sC σ k 6 = 1 ∧ ¬ k = c ∧ sC σ k 0 = sC σ c 0 ∧ slv σ k c ≤ 1 ∧ sLen σ k + sLen σ c ≤ sC σ k 4) ∧ (sft σ c k = 0 ∨ slv σ k c < slv σ (sft σ c k - 1) c ∨ (slv σ k c = slv σ (sft σ c k - 1) c ∧ sLen σ (sft σ c k - 1) < sLen σ k)) then k + 1 else sft σ c k
/-- the greatest of the first k that run -/
def sgr (σ : q_S) : Nat → Nat
  | 0 => 0
  | k + 1 => if sC σ k 6 = 1 ∧ (sgr σ k = 0 ∨ sLen σ (sgr σ k - 1) < sLen σ k) then k + 1 else sgr σ k
/-- a room that is given on an evening -/
def sgv (σ : q_S) (r e : Nat) : Prop := ∃ k, k < sN σ 0 ∧ sC σ k 7 = r + 1 ∧ sC σ k 2 = e
/-- who goes into d by a merging: one, and a row of them -/
def smg1 (σ : q_S) (d p : Nat) : q_S := (sN σ, f1 (sG σ) 3 (sG σ 3 + (sP σ p 5 - sC σ d 5)), sC σ, f1 (sL σ) d (sL σ d ++ [p]), f2 (f2 (f2 (sP σ) p 4 (d + 1)) p 6 (sP σ p 6 + 1)) p 5 (sP σ p 5 - (sP σ p 5 - sC σ d 5)), sR σ)
def smgs (d : Nat) : List Nat → q_S → q_S
  | [], σ => σ
  | p :: l, σ => smgs d l (smg1 σ d p)
def smerge0 (τ : q_S) (c d : Nat) : q_S := (sN τ, f1 (sG τ) 6 (sG τ 6 + 1), f2 (f2 (f2 (sC τ) c 6 4) c 9 1) c 8 (d + 1), f1 (sL τ) c [], sP τ, sR τ)
def smerge (σ : q_S) (c d : Nat) : q_S := smerge0 (smgs d (sL σ c) σ) c d
/-- who is in c: of the first k, what they paid together -/
def spd (σ : q_S) (c : Nat) : Nat → Nat
  | 0 => 0
  | k + 1 => spd σ c k + (if sP σ k 4 = c + 1 then sP σ k 5 else 0)
def scan (σ : q_S) (c w : Nat) : q_S := (sN σ, f1 (f1 (sG σ) 3 (sG σ 3 + spd σ c 30)) 7 (sG σ 7 + 1), f2 (f2 (sC σ) c 6 3) c 9 w, f1 (sL σ) c [], fun p j => if sP σ p 4 = c + 1 ∧ (j = 4 ∨ j = 5) then 0 else sP σ p j, sR σ)
def scl1 (σ : q_S) (c : Nat) : q_S := sset 1000 (if sft σ c 8 = 0 then scan σ c 2 else smerge σ c (sft σ c 8 - 1))
def scls1 : Nat → q_S → q_S
  | 0, σ => σ
  | n + 1, σ => if ssm σ 8 = 0 then σ else scls1 n (scl1 σ (ssm σ 8 - 1))
theorem sgv_8 {σ : q_S} (h : WFc σ) {r e : Nat} : (∃ k, k < 8 ∧ sC σ k 7 = r + 1 ∧ sC σ k 2 = e) ↔ sgv σ r e := by
  constructor
  · rintro ⟨k, h1, h2, h3⟩
    refine ⟨k, ?_, h2, h3⟩
    rcases Nat.lt_or_ge k (sN σ 0) with q | q
    · exact q
    · have := (h.2.2.1 k q).2.1
      omega
  · rintro ⟨k, h1, h2, h3⟩
    exact ⟨k, Nat.lt_of_lt_of_le h1 h.B.1, h2, h3⟩
/-! numbers -/
theorem enc_eq {u v : Nat} (hu : u < 2 ^ 31) (hv : v < 2 ^ 31) : enc u = enc v ↔ u = v := by
  constructor
  · intro h
    unfold enc at h
    by_cases e1 : u = 0
    · by_cases e2 : v = 0
      · omega
      · rw [if_pos e1, if_neg e2] at h
        have h1 : ((-1 : Int32)).toInt = (nI (v - 1)).toInt := by rw [h]
        rw [nI_toInt (by omega)] at h1
        have : ((-1 : Int32)).toInt = -1 := by decide
        omega
    · by_cases e2 : v = 0
      · rw [if_neg e1, if_pos e2] at h
        have h1 : (nI (u - 1)).toInt = ((-1 : Int32)).toInt := by rw [h]
        rw [nI_toInt (by omega)] at h1
        have : ((-1 : Int32)).toInt = -1 := by decide
        omega
      · rw [if_neg e1, if_neg e2] at h
        have := (nI_eq (by omega) (by omega)).mp h
        omega
  · rintro rfl; rfl
theorem enc_m1 {u : Nat} (hu : u < 2 ^ 31) : enc u = -1 ↔ u = 0 := enc_eq (v := 0) hu (by omega)
theorem enc_nI {u v : Nat} (hu : u < 2 ^ 31) (hv : v < 2 ^ 31 - 1) : enc u = nI v ↔ u = v + 1 := enc_eq (v := v + 1) hu (by omega)
theorem enc_z {u : Nat} (hu : u < 2 ^ 31) : enc u = 0 ↔ u = 1 := enc_eq (v := 1) hu (by omega)
/-! readings -/
theorem RC.n {b j : Nat} {I : q_Mem} {σ : q_S} (h : RC b I σ) (hj : j < 3) : I b (nslot j) = nI (sN σ j) := h.1 j hj
theorem RC.g {b j : Nat} {I : q_Mem} {σ : q_S} (h : RC b I σ) (hj : j < 8) : I b (6 + j) = nI (sG σ j) := h.2.1 j hj
theorem RC.c {b c j : Nat} {I : q_Mem} {σ : q_S} (h : RC b I σ) (hc : c < 8) (hj : j < 10) : I (b + 4 + 2 * c) (cslot j) = cenc j (sC σ c j) := h.2.2.1 c hc j hj
theorem RC.len {b c : Nat} {I : q_Mem} {σ : q_S} (h : RC b I σ) (hc : c < 8) : I (b + 4 + 2 * c) 12 = nI (sLen σ c) := h.2.2.2.1 c hc
theorem RC.m {b c : Nat} {I : q_Mem} {σ : q_S} (h : RC b I σ) (hc : c < 8) {r v : Nat} (hr : (sL σ c)[r]? = some v) : I (b + 5 + 2 * c) r = nI v := h.2.2.2.2.1 c hc r v hr
theorem RC.p {b p j : Nat} {I : q_Mem} {σ : q_S} (h : RC b I σ) (hp : p < 30) (hj : j < 7) : I (b + 20 + p) (pslot j) = penc j (sP σ p j) := h.2.2.2.2.2.1 p hp j hj
theorem RC.r {b r : Nat} {I : q_Mem} {σ : q_S} (h : RC b I σ) (hr : r < 5) : I (b + 3) r = nI (sR σ r) := h.2.2.2.2.2.2.1 r hr
theorem RC.cn {b c : Nat} {I : q_Mem} {σ : q_S} (h : RC b I σ) (hc : c < 8) : I (b + 4 + 2 * c) 0 = nI c := h.2.2.2.2.2.2.2.1 c hc
theorem RC.pn {b p : Nat} {I : q_Mem} {σ : q_S} (h : RC b I σ) (hp : p < 30) : I (b + 20 + p) 0 = nI p := h.2.2.2.2.2.2.2.2 p hp
end
section
/-! the class's season: what is asked of it, one by one -/
/-- a reference to a class of the season at b, by its number + 1; null for 0 -/
def crf (b w : Nat) : Value := if w = 0 then .null else .ref (b + 4 + 2 * (w - 1))
theorem c_courseAt {b : Nat} {x : Int32} {I : q_Mem} {σ : q_S} (hk : q_kd b = 3) (h : RC b I σ) (h8 : sN σ 0 ≤ 8) : q_M kX3_courseAt [.ref b, .int x] I (fun v J => I = J ∧ ((∃ c, c < sN σ 0 ∧ x = nI c ∧ v = some (.ref (b + 4 + 2 * c))) ∨ ((∀ c, c < sN σ 0 → ¬ x = nI c) ∧ v = some .null))) := by
  refine q_M.of pnX3_courseAt (by simp [Value.category]) (Nat.le_of_ble_eq_true rfl) ?_
  refine q_iload_n dX3_courseAt_0 rfl ?_
  refine q_if_lt (tgt := 30) dX3_courseAt_1 (by decide) (fun h0 => ?_) (fun h0 => ?_)
  · refine q_null dX3_courseAt_30 ?_
    exact q_aretN rfl dX3_courseAt_31 ⟨rfl, Or.inr ⟨fun c hc q => by rw [q] at h0; exact nI_pos (by omega) h0, rfl⟩⟩
  obtain ⟨c, hc, rfl⟩ := nI_of h0
  refine q_iload_n dX3_courseAt_4 rfl ?_
  refine q_aload_n dX3_courseAt_5 rfl ?_
  refine q_getI fl_RX3_50 rfl (by assumption) (h.n (j := 0) (by omega)) dX3_courseAt_6 ?_
  refine q_icmp_geN (tgt := 30) (by omega) (by omega) dX3_courseAt_9 (by decide) (fun h1 => ?_) (fun h1 => ?_)
  · refine q_null dX3_courseAt_30 ?_
    exact q_aretN rfl dX3_courseAt_31 ⟨rfl, Or.inr ⟨fun d hd q => by have := (nI_eq (by omega) (by omega)).mp q; omega, rfl⟩⟩
  refine q_iload_n dX3_courseAt_12 rfl ?_
  refine q_aload_n dX3_courseAt_13 rfl ?_
  refine q_getR fl_RX3_11 rfl (by assumption) dX3_courseAt_14 ?_
  refine q_lenC hk rfl dX3_courseAt_17 ?_
  refine q_icmp_geN (tgt := 30) (by omega) (by omega) dX3_courseAt_18 (by decide) (fun h2 => ?_) (fun h2 => ?_)
  · omega
  refine q_aload_n dX3_courseAt_21 rfl ?_
  refine q_getR fl_RX3_11 rfl (by assumption) dX3_courseAt_22 ?_
  refine q_iload_n dX3_courseAt_25 rfl ?_
  refine q_aaldC hk rfl (i := c) (by omega) dX3_courseAt_26 ?_
  refine q_goto (tgt := 31) dX3_courseAt_27 (by decide) ?_
  exact q_aret rfl dX3_courseAt_31 ⟨rfl, Or.inl ⟨c, h1, rfl, rfl⟩⟩
theorem c_courseAtE {b w : Nat} {I : q_Mem} {σ : q_S} (hk : q_kd b = 3) (h : RC b I σ) (h8 : sN σ 0 ≤ 8) (hw : w ≤ sN σ 0) : q_M kX3_courseAt [.ref b, .int (enc w)] I (fun v J => v = some (crf b w) ∧ I = J) := by
  refine (c_courseAt hk h h8).mono ?_
  rintro v J ⟨rfl, ⟨c, hc, hx, rfl⟩ | ⟨hx, rfl⟩⟩
  · have := (enc_nI (u := w) (v := c) (by omega) (by omega)).mp hx
    subst this
    exact ⟨rfl, rfl⟩
  · refine ⟨?_, rfl⟩
    by_cases e : w = 0
    · rw [crf, if_pos e]
    · refine absurd ?_ (hx (w - 1) (by omega))
      exact (enc_nI (by omega) (by omega)).mpr (by omega)
theorem c_personAt {b : Nat} {x : Int32} {I : q_Mem} {σ : q_S} (hk : q_kd b = 3) (h : RC b I σ) (h8 : sN σ 2 ≤ 30) : q_M kX3_personAt [.ref b, .int x] I (fun v J => I = J ∧ ((∃ c, c < sN σ 2 ∧ x = nI c ∧ v = some (.ref (b + 20 + c))) ∨ ((∀ c, c < sN σ 2 → ¬ x = nI c) ∧ v = some .null))) := by
  refine q_M.of pnX3_personAt (by simp [Value.category]) (Nat.le_of_ble_eq_true rfl) ?_
  refine q_iload_n dX3_personAt_0 rfl ?_
  refine q_if_lt (tgt := 30) dX3_personAt_1 (by decide) (fun h0 => ?_) (fun h0 => ?_)
  · refine q_null dX3_personAt_30 ?_
    exact q_aretN rfl dX3_personAt_31 ⟨rfl, Or.inr ⟨fun c hc q => by rw [q] at h0; exact nI_pos (by omega) h0, rfl⟩⟩
  obtain ⟨c, hc, rfl⟩ := nI_of h0
  refine q_iload_n dX3_personAt_4 rfl ?_
  refine q_aload_n dX3_personAt_5 rfl ?_
  refine q_getI fl_RX3_54 rfl (by assumption) (h.n (j := 2) (by omega)) dX3_personAt_6 ?_
  refine q_icmp_geN (tgt := 30) (by omega) (by omega) dX3_personAt_9 (by decide) (fun h1 => ?_) (fun h1 => ?_)
  · refine q_null dX3_personAt_30 ?_
    exact q_aretN rfl dX3_personAt_31 ⟨rfl, Or.inr ⟨fun d hd q => by have := (nI_eq (by omega) (by omega)).mp q; omega, rfl⟩⟩
  refine q_iload_n dX3_personAt_12 rfl ?_
  refine q_aload_n dX3_personAt_13 rfl ?_
  refine q_getR fl_RX3_19 rfl (by assumption) dX3_personAt_14 ?_
  refine q_lenP hk rfl dX3_personAt_17 ?_
  refine q_icmp_geN (tgt := 30) (by omega) (by omega) dX3_personAt_18 (by decide) (fun h2 => ?_) (fun h2 => ?_)
  · omega
  refine q_aload_n dX3_personAt_21 rfl ?_
  refine q_getR fl_RX3_19 rfl (by assumption) dX3_personAt_22 ?_
  refine q_iload_n dX3_personAt_25 rfl ?_
  refine q_aaldP hk rfl (i := c) (by omega) dX3_personAt_26 ?_
  refine q_goto (tgt := 31) dX3_personAt_27 (by decide) ?_
  exact q_aret rfl dX3_personAt_31 ⟨rfl, Or.inl ⟨c, h1, rfl, rfl⟩⟩
theorem c_personAtN {b p : Nat} {I : q_Mem} {σ : q_S} (hk : q_kd b = 3) (h : RC b I σ) (h8 : sN σ 2 ≤ 30) (hp : p < sN σ 2) : q_M kX3_personAt [.ref b, .int (nI p)] I (fun v J => v = some (.ref (b + 20 + p)) ∧ I = J) := by
  refine (c_personAt hk h h8).mono ?_
  rintro v J ⟨rfl, ⟨c, hc, hx, rfl⟩ | ⟨hx, rfl⟩⟩
  · have := (nI_eq (by omega) (by omega)).mp hx
    subst this
    exact ⟨rfl, rfl⟩
  · exact absurd rfl (hx p hp)
theorem c_isRoom {b : Nat} {x : Int32} {I : q_Mem} {σ : q_S} (hk : q_kd b = 3) (h : RC b I σ) (hB : sB σ) : q_M kX3_isRoom [.ref b, .int x] I (fun v J => I = J ∧ ((∃ c, c < sN σ 1 ∧ x = nI c ∧ v = some (.int 1)) ∨ ((∀ c, c < sN σ 1 → ¬ x = nI c) ∧ v = some (.int 0)))) := by
  have h8 : sN σ 1 ≤ 5 := hB.2.1
  refine q_M.of pnX3_isRoom (by simp [Value.category]) (Nat.le_of_ble_eq_true rfl) ?_
  refine q_iload_n dX3_isRoom_0 rfl ?_
  refine q_if_lt (tgt := 16) dX3_isRoom_1 (by decide) (fun h0 => ?_) (fun h0 => ?_)
  · refine q_iconst (v := nI 0) dX3_isRoom_16 (by decide) ?_
    exact q_iret rfl rfl dX3_isRoom_17 ⟨rfl, Or.inr ⟨fun c hc q => by rw [q] at h0; exact nI_pos (by omega) h0, rfl⟩⟩
  obtain ⟨c, hc, rfl⟩ := nI_of h0
  refine q_iload_n dX3_isRoom_4 rfl ?_
  refine q_aload_n dX3_isRoom_5 rfl ?_
  refine q_getI fl_RX3_57 rfl (by assumption) (h.n (j := 1) (by omega)) dX3_isRoom_6 ?_
  refine q_icmp_geN (tgt := 16) (by omega) (by omega) dX3_isRoom_9 (by decide) (fun h1 => ?_) (fun h1 => ?_)
  · refine q_iconst (v := nI 0) dX3_isRoom_16 (by decide) ?_
    exact q_iret rfl rfl dX3_isRoom_17 ⟨rfl, Or.inr ⟨fun d hd q => by have := (nI_eq (by omega) (by omega)).mp q; omega, rfl⟩⟩
  refine q_iconst (v := nI 1) dX3_isRoom_12 (by decide) ?_
  refine q_goto (tgt := 17) dX3_isRoom_13 (by decide) ?_
  exact q_iret rfl rfl dX3_isRoom_17 ⟨rfl, Or.inl ⟨c, h1, rfl, rfl⟩⟩
theorem c_chairsOf {b r : Nat} {I : q_Mem} {σ : q_S} (hk : q_kd b = 3) (h : RC b I σ) (hr : r < 5) : q_M kX3_chairsOf [.ref b, .int (nI r)] I (fun v J => v = some (.int (nI (sR σ r))) ∧ I = J) := by
  refine q_M.of pnX3_chairsOf (by simp [Value.category]) (Nat.le_of_ble_eq_true rfl) ?_
  refine q_iload_n dX3_chairsOf_0 rfl ?_
  refine q_if_ltN (tgt := 22) (by omega) dX3_chairsOf_1 (by decide) (fun h0 => ?_) (fun h0 => ?_)
  · omega
  refine q_iload_n dX3_chairsOf_4 rfl ?_
  refine q_aload_n dX3_chairsOf_5 rfl ?_
  refine q_getR fl_RX3_23 rfl (by assumption) dX3_chairsOf_6 ?_
  refine q_lenR hk rfl dX3_chairsOf_9 ?_
  refine q_icmp_geN (tgt := 22) (by omega) (by omega) dX3_chairsOf_10 (by decide) (fun h1 => ?_) (fun h1 => ?_)
  · omega
  refine q_aload_n dX3_chairsOf_13 rfl ?_
  refine q_getR fl_RX3_23 rfl (by assumption) dX3_chairsOf_14 ?_
  refine q_iload_n dX3_chairsOf_17 rfl ?_
  refine q_ialdR hk rfl hr (h.r hr) dX3_chairsOf_18 ?_
  refine q_goto (tgt := 23) dX3_chairsOf_19 (by decide) ?_
  exact q_iret rfl rfl dX3_chairsOf_23 ⟨rfl, rfl⟩
theorem c_hasFreeS {b c : Nat} {I : q_Mem} {σ : q_S} (hk : q_kd b = 3) (h : RC b I σ) (hw : WFc σ) (hc : c < 8) : q_M kX0_hasFreePlace [.ref (b + 4 + 2 * c)] I (fun v J => v = some (.int (if sC σ c 6 = 1 ∧ sLen σ c < sC σ c 4 then 1 else 0)) ∧ I = J) := by
  have hcr := hw.cr hc
  refine (c_hasFree (kSC hk hc) (h.len hc) (h.c hc (j := 4) (by omega)) (Nat.lt_of_le_of_lt (hw.len _) (by omega)) (Nat.lt_of_le_of_lt hcr.2.2.2.2.1 (by omega))).mono ?_
  rintro v J ⟨rfl, rfl⟩
  have hst : I (b + 4 + 2 * c) 8 = 0 ↔ sC σ c 6 = 1 := by
    rw [show I (b + 4 + 2 * c) 8 = enc (sC σ c 6) from h.c hc (j := 6) (by omega)]
    exact enc_z (by have := hcr.2.2.2.2.2.2.1; omega)
  refine ⟨?_, rfl⟩
  by_cases q : sC σ c 6 = 1 ∧ sLen σ c < sC σ c 4
  · rw [if_pos q, if_pos ⟨hst.mpr q.1, q.2⟩]
  · rw [if_neg q, if_neg (fun z => q ⟨hst.mp z.1, z.2⟩)]
/-- the wishes from the rank k on -/
def sbk (σ : q_S) (p : Nat) : Nat → Nat → Nat
  | 0, _ => 0
  | d + 1, k => if sP σ p (1 + k) = sP σ p 4 then 0 else if sfr σ (sP σ p (1 + k)) then sP σ p (1 + k) else sbk σ p d (k + 1)
theorem sbet_k (σ : q_S) (p : Nat) : sbet σ p = if sP σ p 0 = 0 then 0 else sbk σ p 3 0 := rfl
theorem sbk_le {σ : q_S} (hw : WFc σ) (p : Nat) : ∀ d k, d + k ≤ 3 → sbk σ p d k ≤ sN σ 0 := by
  intro d
  induction d with
  | zero => intro k _; exact Nat.zero_le _
  | succ d ih =>
    intro k hk
    unfold sbk
    have hp := hw.pr p
    have : sP σ p (1 + k) ≤ sN σ 0 := by
      have hc : k = 0 ∨ k = 1 ∨ k = 2 := by omega
      rcases hc with rfl | rfl | rfl
      · exact hp.2.1
      · exact hp.2.2.1
      · exact hp.2.2.2.1
    split
    · exact Nat.zero_le _
    · split
      · exact this
      · exact ih (k + 1) (by omega)
theorem sbet_le {σ : q_S} (hw : WFc σ) (p : Nat) : sbet σ p ≤ sN σ 0 := by
  rw [sbet_k]
  split
  · exact Nat.zero_le _
  · exact sbk_le hw p 3 0 (by omega)
theorem c_better {b p : Nat} {I : q_Mem} {σ : q_S} (hk : q_kd b = 3) (h : RC b I σ) (hw : WFc σ) (hp : p < 30) : q_M kX3_betterFor [.ref b, .ref (b + 20 + p)] I (fun v J => v = some (crf b (sbet σ p)) ∧ I = J) := by
  have hkp := kSP hk hp
  have hpr := hw.pr p
  have h8 : sN σ 0 ≤ 8 := hw.B.1
  have key : ∀ (d k : Nat) (o3 o4 : Option Value), d + k = 3 → q_X kX3_betterFor 11 [some (.ref b), some (.ref (b + 20 + p)), some (.int (nI k)), o3, o4] [] I (fun v J => v = some (crf b (sbk σ p d k)) ∧ I = J) := by
    intro d
    induction d with
    | zero =>
      intro k o3 o4 hd
      refine q_iload_n dX3_betterFor_11 rfl ?_
      refine q_iconst (v := nI 3) dX3_betterFor_12 (by decide) ?_
      refine q_icmp_geN (tgt := 61) (by omega) (by omega) dX3_betterFor_13 (by decide) (fun h1 => ?_) (fun h1 => ?_)
      · refine q_null dX3_betterFor_61 ?_
        exact q_aretN rfl dX3_betterFor_62 ⟨rfl, rfl⟩
      · omega
    | succ d ih =>
      intro k o3 o4 hd
      refine q_iload_n dX3_betterFor_11 rfl ?_
      refine q_iconst (v := nI 3) dX3_betterFor_12 (by decide) ?_
      refine q_icmp_geN (tgt := 61) (by omega) (by omega) dX3_betterFor_13 (by decide) (fun h1 => ?_) (fun h1 => ?_)
      · omega
      refine q_aload_n dX3_betterFor_16 rfl ?_
      refine q_iload_n dX3_betterFor_17 rfl ?_
      refine q_cV (as := [_]) lk_RX3_179 (c_wishAt hkp (r := k) (by omega)) (Or.inl ⟨2, by decide, by assumption, rfl⟩) rfl (by decide) (Nat.le_of_ble_eq_true rfl) dX3_betterFor_18 ?_
      rintro v J ⟨rfl, rfl⟩
      have hwk : I (b + 20 + p) (5 + k) = enc (sP σ p (1 + k)) ∧ sP σ p (1 + k) ≤ sN σ 0 := by
        have hc : k = 0 ∨ k = 1 ∨ k = 2 := by omega
        rcases hc with rfl | rfl | rfl
        · exact ⟨h.p hp (j := 1) (by omega), hpr.2.1⟩
        · exact ⟨h.p hp (j := 2) (by omega), hpr.2.2.1⟩
        · exact ⟨h.p hp (j := 3) (by omega), hpr.2.2.2.1⟩
      rw [hwk.1]
      refine q_istore_n (ls' := [_, _, _, _, _]) dX3_betterFor_21 (Nat.le_of_ble_eq_true rfl) rfl ?_
      refine q_iload_n dX3_betterFor_22 rfl ?_
      refine q_aload_n dX3_betterFor_23 rfl ?_
      refine q_getI fl_RX3_182 rfl (by assumption) (h.p hp (j := 4) (by omega)) dX3_betterFor_24 ?_
      refine q_icmp_ne (tgt := 32) dX3_betterFor_27 (by decide) (fun h2 => ?_) (fun h2 => ?_)
      · refine q_aload_n dX3_betterFor_32 rfl ?_
        refine q_iload_n dX3_betterFor_33 rfl ?_
        refine q_cV (as := [_]) lk_RX3_123 (c_courseAtE hk h hw.B.1 hwk.2) (Or.inl ⟨3, by decide, by assumption, rfl⟩) rfl (by decide) (Nat.le_of_ble_eq_true rfl) dX3_betterFor_34 ?_
        rintro v J ⟨rfl, rfl⟩
        have hne : ¬ sP σ p (1 + k) = sP σ p 4 := fun q => h2 (by rw [q]; rfl)
        by_cases e : sP σ p (1 + k) = 0
        · rw [crf, if_pos e]
          refine q_astoreN (ls' := [_, _, _, _, _]) dX3_betterFor_37 (Nat.le_of_ble_eq_true rfl) rfl ?_
          refine q_aloadN dX3_betterFor_39 rfl ?_
          refine q_ifnullN (tgt := 55) dX3_betterFor_41 (by decide) ?_
          refine q_iinc (ls' := [_, _, _, _, _]) dX3_betterFor_55 rfl (nI_add _ 1) rfl ?_
          refine q_goto (tgt := 11) dX3_betterFor_58 (by decide) ?_
          refine (ih (k + 1) _ _ (by omega)).mono ?_
          rintro v J ⟨rfl, rfl⟩
          refine ⟨?_, rfl⟩
          rw [sbk, if_neg hne, if_neg (fun q => q.1 e)]
        · rw [crf, if_neg e]
          have hc8 : sP σ p (1 + k) - 1 < 8 := by omega
          have hcr := hw.cr hc8
          refine q_astore (ls' := [_, _, _, _, _]) dX3_betterFor_37 (Nat.le_of_ble_eq_true rfl) rfl ?_
          refine q_aload dX3_betterFor_39 rfl ?_
          refine q_ifnull dX3_betterFor_41 ?_
          refine q_aload dX3_betterFor_44 rfl ?_
          refine q_cV (as := []) lk_RX3_185 (c_hasFreeS hk h hw hc8) (Or.inl ⟨0, by decide, kSC hk hc8, rfl⟩) rfl (by decide) (Nat.le_of_ble_eq_true rfl) dX3_betterFor_46 ?_
          rintro v J ⟨rfl, rfl⟩
          by_cases f : sfr σ (sP σ p (1 + k))
          · rw [if_pos f.2]
            refine q_if_eq (tgt := 55) dX3_betterFor_49 (by decide) (fun h3 => ?_) (fun h3 => ?_)
            · exact absurd h3 (by decide)
            refine q_aload dX3_betterFor_52 rfl ?_
            exact q_aret rfl dX3_betterFor_54 ⟨by rw [sbk, if_neg hne, if_pos f, crf, if_neg e], rfl⟩
          · rw [if_neg (fun q => f ⟨e, q⟩)]
            refine q_if_eq (tgt := 55) dX3_betterFor_49 (by decide) (fun h3 => ?_) (fun h3 => ?_)
            · refine q_iinc (ls' := [_, _, _, _, _]) dX3_betterFor_55 rfl (nI_add _ 1) rfl ?_
              refine q_goto (tgt := 11) dX3_betterFor_58 (by decide) ?_
              refine (ih (k + 1) _ _ (by omega)).mono ?_
              rintro v J ⟨rfl, rfl⟩
              refine ⟨?_, rfl⟩
              rw [sbk, if_neg hne, if_neg f]
            · exact absurd rfl h3
      · refine q_null dX3_betterFor_30 ?_
        have he : sP σ p (1 + k) = sP σ p 4 := (enc_eq (by omega) (by have := hpr.2.2.2.2.1; omega)).mp h2
        exact q_aretN rfl dX3_betterFor_31 ⟨by rw [sbk, if_pos he]; rfl, rfl⟩
  refine q_M.of pnX3_betterFor (by simp [Value.category]) (Nat.le_of_ble_eq_true rfl) ?_
  refine q_aload_n dX3_betterFor_0 rfl ?_
  refine q_getI fl_RX3_104 rfl (by assumption) (h.p hp (j := 0) (by omega)) dX3_betterFor_1 ?_
  have hp0 : sP σ p 0 < 2 ^ 31 := by have := hpr.1; omega
  refine q_if_neN (tgt := 9) hp0 dX3_betterFor_4 (by decide) (fun h1 => ?_) (fun h1 => ?_)
  · refine q_iconst (v := nI 0) dX3_betterFor_9 (by decide) ?_
    refine q_istore_n (ls' := [_, _, _, _, _]) dX3_betterFor_10 (Nat.le_of_ble_eq_true rfl) rfl ?_
    refine (key 3 0 _ _ rfl).mono ?_
    rintro v J ⟨rfl, rfl⟩
    exact ⟨by rw [sbet_k, if_neg h1], rfl⟩
  · refine q_null dX3_betterFor_7 ?_
    exact q_aretN rfl dX3_betterFor_8 ⟨by rw [sbet_k, if_pos h1]; rfl, rfl⟩
end
section
/-! facts of moves -/
theorem sN_mk {a b : Nat → Nat} {c : Nat → Nat → Nat} {d : Nat → List Nat} {e : Nat → Nat → Nat} {f : Nat → Nat} : sN (a, b, c, d, e, f) = a := rfl
theorem sG_mk {a b : Nat → Nat} {c : Nat → Nat → Nat} {d : Nat → List Nat} {e : Nat → Nat → Nat} {f : Nat → Nat} : sG (a, b, c, d, e, f) = b := rfl
theorem sC_mk {a b : Nat → Nat} {c : Nat → Nat → Nat} {d : Nat → List Nat} {e : Nat → Nat → Nat} {f : Nat → Nat} : sC (a, b, c, d, e, f) = c := rfl
theorem sL_mk {a b : Nat → Nat} {c : Nat → Nat → Nat} {d : Nat → List Nat} {e : Nat → Nat → Nat} {f : Nat → Nat} : sL (a, b, c, d, e, f) = d := rfl
theorem sP_mk {a b : Nat → Nat} {c : Nat → Nat → Nat} {d : Nat → List Nat} {e : Nat → Nat → Nat} {f : Nat → Nat} : sP (a, b, c, d, e, f) = e := rfl
theorem sR_mk {a b : Nat → Nat} {c : Nat → Nat → Nat} {d : Nat → List Nat} {e : Nat → Nat → Nat} {f : Nat → Nat} : sR (a, b, c, d, e, f) = f := rfl
theorem sbk_spec {σ : q_S} (p : Nat) : ∀ d k, ¬ sbk σ p d k = 0 → sfr σ (sbk σ p d k) ∧ ¬ sbk σ p d k = sP σ p 4 ∧ ∃ j, k ≤ j ∧ j < k + d ∧ sbk σ p d k = sP σ p (1 + j) := by
  intro d
  induction d with
  | zero => intro k h; exact absurd rfl h
  | succ d ih =>
    intro k h
    by_cases e : sP σ p (1 + k) = sP σ p 4
    · rw [sbk, if_pos e] at h; exact absurd rfl h
    · by_cases f : sfr σ (sP σ p (1 + k))
      · rw [sbk, if_neg e, if_pos f]
        exact ⟨f, e, k, Nat.le_refl _, by omega, rfl⟩
      · rw [sbk, if_neg e, if_neg f] at h ⊢
        obtain ⟨h1, h2, j, h3, h4, h5⟩ := ih (k + 1) h
        exact ⟨h1, h2, j, by omega, by omega, h5⟩
theorem sbet_spec {σ : q_S} {p : Nat} (h : ¬ sbet σ p = 0) : ¬ sP σ p 0 = 0 ∧ sfr σ (sbet σ p) ∧ ¬ sbet σ p = sP σ p 4 ∧ ∃ j, j < 3 ∧ sbet σ p = sP σ p (1 + j) := by
  rw [sbet_k] at h ⊢
  by_cases e : sP σ p 0 = 0
  · rw [if_pos e] at h; exact absurd rfl h
  · rw [if_neg e] at h ⊢
    obtain ⟨h1, h2, j, h3, h4, h5⟩ := sbk_spec p 3 0 h
    exact ⟨e, h1, h2, j, by omega, h5⟩
theorem spk_spec (σ : q_S) : ∀ d k, k ≤ spk σ d k ∧ spk σ d k ≤ k + d ∧ (spk σ d k < k + d → ¬ sbet σ (spk σ d k) = 0) ∧ ∀ i, k ≤ i → i < spk σ d k → sbet σ i = 0 := by
  intro d
  induction d with
  | zero => intro k; exact ⟨Nat.le_refl _, Nat.le_refl _, fun h => absurd h (Nat.lt_irrefl _), fun i h1 h2 => absurd h2 (Nat.not_lt.mpr h1)⟩
  | succ d ih =>
    intro k
    by_cases e : sbet σ k = 0
    · rw [spk, if_pos e]
      obtain ⟨h1, h2, h3, h4⟩ := ih (k + 1)
      refine ⟨by omega, by omega, fun h => h3 (by omega), fun i q1 q2 => ?_⟩
      rcases Nat.eq_or_lt_of_le q1 with q | q
      · rw [← q]; exact e
      · exact h4 i q q2
    · rw [spk, if_neg e]
      exact ⟨Nat.le_refl _, by omega, fun _ => e, fun i h1 h2 => absurd h2 (Nat.not_lt.mpr h1)⟩
theorem f1_id {α : Type} {f : Nat → α} {j : Nat} {v : α} (h : f j = v) : f1 f j v = f := by
  funext i
  by_cases e : i = j
  · subst e; rw [f1_s]; exact h.symm
  · exact f1_n e
theorem f2_id {α : Type} {f : Nat → Nat → α} {c j : Nat} {v : α} (h : f c j = v) : f2 f c j v = f := by
  funext d i
  by_cases e : d = c ∧ i = j
  · obtain ⟨rfl, rfl⟩ := e; rw [f2_s]; exact h.symm
  · exact f2_n e
theorem f1_or {α : Type} {f : Nat → α} {j i : Nat} {v : α} : f1 f j v i = if i = j then v else f i := rfl
theorem f2_or {α : Type} {f : Nat → Nat → α} {c j d i : Nat} {v : α} : f2 f c j v d i = if d = c ∧ i = j then v else f d i := rfl
theorem WFc.out {σ : q_S} (h : WFc σ) (p : Nat) : WFc (sout σ p) := by
  unfold sout
  by_cases e0 : sP σ p 4 = 0
  · rw [if_pos e0]; exact h
  rw [if_neg e0]
  obtain ⟨hB, h2, h3, h4, h5, h6, h7, h8⟩ := id h
  have hL : ∀ c, (f1 (sL σ) (sP σ p 4 - 1) ((sL σ (sP σ p 4 - 1)).filter (· != p)) c).length ≤ (sL σ c).length := by
    intro c
    by_cases e : c = sP σ p 4 - 1
    · subst e; rw [f1_s]; exact List.length_filter_le _ _
    · rw [f1_n e]; exact Nat.le_refl _
  refine ⟨⟨hB.1, hB.2.1, hB.2.2.1, fun c => Nat.le_trans (hL c) (hB.2.2.2 c)⟩, fun c hc => ?_, fun c hc => ?_, h4, fun q => ?_, fun q hq j => ?_, fun c => ⟨?_, fun q => ?_⟩, h8⟩
  · obtain ⟨a1, a2, a3, a4, a5, a6, a7, a8, a9, a10, a11⟩ := h2 c hc
    exact ⟨a1, a2, a3, a4, a5, a6, a7, a8, a9, a10, Nat.le_trans (hL c) a11⟩
  · obtain ⟨a1, a2, a3⟩ := h3 c hc
    refine ⟨a1, a2, ?_⟩
    by_cases e : c = sP σ p 4 - 1
    · subst e
      show f1 (sL σ) _ _ _ = _
      rw [f1_s, a3]; rfl
    · show f1 (sL σ) _ _ _ = _
      rw [f1_n e]; exact a3
  · by_cases e : q = p
    · subst e
      obtain ⟨a1, a2, a3, a4, a5, a6, a7, a8, a9, a10⟩ := h5 q
      refine ⟨?_, ?_, ?_, ?_, ?_, ?_, ?_, ?_, ?_, ?_⟩ <;> simp only [sP_mk, sN_mk, f2] <;> simp <;> assumption
    · have e1 : f2 (f2 (sP σ) p 4 0) p 5 0 q = sP σ q := by
        funext j
        rw [f2_n (fun z => e z.1), f2_n (fun z => e z.1)]
      have := h5 q
      unfold prg at this ⊢
      rw [sP_mk, sN_mk, e1]
      exact this
  · show f2 (f2 (sP σ) p 4 0) p 5 0 q j = 0
    have := h6 q hq j
    rw [f2_or, f2_or, this]
    split
    · rfl
    · split <;> rfl
  · by_cases e : c = sP σ p 4 - 1
    · subst e
      show (f1 (sL σ) _ _ _).Nodup
      rw [f1_s]
      exact (h.nd _).filter _
    · show (f1 (sL σ) _ _ _).Nodup
      rw [f1_n e]
      exact h.nd _
  · have hm := h.mem (c := c) (p := q)
    show q ∈ f1 (sL σ) _ _ c ↔ f2 (f2 (sP σ) p 4 0) p 5 0 q 4 = c + 1
    have e4 : f2 (f2 (sP σ) p 4 0) p 5 0 q 4 = if q = p then 0 else sP σ q 4 := by
      rw [f2_n (fun z => by omega), f2_or]
      simp
    rw [e4]
    by_cases e : c = sP σ p 4 - 1
    · subst e
      rw [f1_s, List.mem_filter, hm]
      by_cases e5 : q = p
      · subst e5; simp
      · simp [e5]
    · rw [f1_n e, hm]
      by_cases e5 : q = p
      · subst e5
        simp
        omega
      · rw [if_neg e5]
theorem WFc.inn {σ : q_S} (h : WFc σ) {p c : Nat} (hp : p < sN σ 2) (h0 : ¬ sP σ p 0 = 0) (h40 : sP σ p 4 = 0) (hc : c < sN σ 0) (hs : sC σ c 6 = 1) (hl : sLen σ c < sC σ c 4) : WFc (sin σ p c) := by
  obtain ⟨hB, h2, h3, h4, h5, h6, h7, h8⟩ := id h
  have h8c : c < 8 := Nat.lt_of_lt_of_le hc hB.1
  have hcr := h2 c h8c
  have hL : ∀ d, (f1 (sL σ) c (sL σ c ++ [p]) d).length = if d = c then sLen σ c + 1 else sLen σ d := by
    intro d
    by_cases e : d = c
    · subst e; rw [f1_s, if_pos rfl, List.length_append]; rfl
    · rw [f1_n e, if_neg e]
  have hnot : p ∉ sL σ c := fun q => by have := h.mem.mp q; omega
  refine ⟨⟨hB.1, hB.2.1, hB.2.2.1, fun d => ?_⟩, fun d hd => ?_, fun d hd => ?_, h4, fun q => ?_, fun q hq j => ?_, fun d => ⟨?_, fun q => ?_⟩, h8⟩
  · show (f1 (sL σ) _ _ d).length ≤ 20
    rw [hL d]
    split
    · have := hcr.2.2.2.2.1; omega
    · exact hB.2.2.2 d
  · obtain ⟨a1, a2, a3, a4, a5, a6, a7, a8, a9, a10, a11⟩ := h2 d hd
    refine ⟨a1, a2, a3, a4, a5, a6, a7, a8, a9, a10, ?_⟩
    show (f1 (sL σ) _ _ d).length ≤ sC σ d 4
    rw [hL d]
    split
    · next e => subst e; exact hl
    · exact a11
  · have hd : sN σ 0 ≤ d := hd
    obtain ⟨a1, a2, a3⟩ := h3 d hd
    refine ⟨a1, a2, ?_⟩
    show f1 (sL σ) _ _ d = []
    rw [f1_n (by omega)]; exact a3
  · by_cases e : q = p
    · subst e
      obtain ⟨a1, a2, a3, a4, a5, a6, a7, a8, a9, a10⟩ := h5 q
      have c5 := hcr.2.2.2.2.2.1
      refine ⟨?_, ?_, ?_, ?_, ?_, ?_, ?_, ?_, ?_, ?_⟩ <;> simp only [sin, sP_mk, sN_mk, f2] <;> simp <;> first | assumption | omega
    · have e1 : f2 (f2 (f2 (sP σ) p 4 (c + 1)) p 5 (sC σ c 5)) p 6 (sP σ p 6 + 1) q = sP σ q := by
        funext j
        rw [f2_n (fun z => e z.1), f2_n (fun z => e z.1), f2_n (fun z => e z.1)]
      have := h5 q
      unfold prg at this ⊢
      rw [sin, sP_mk, sN_mk, e1]
      exact this
  · have hq : sN σ 2 ≤ q := hq
    show f2 (f2 (f2 (sP σ) p 4 (c + 1)) p 5 (sC σ c 5)) p 6 (sP σ p 6 + 1) q j = 0
    rw [f2_n (fun z => by omega), f2_n (fun z => by omega), f2_n (fun z => by omega)]
    exact h6 q hq j
  · show (f1 (sL σ) _ _ d).Nodup
    by_cases e : d = c
    · subst e
      rw [f1_s]
      refine List.nodup_append.mpr ⟨h.nd _, by simp, fun a ha b hb => ?_⟩
      rw [List.mem_singleton] at hb
      rw [hb]
      exact fun z => hnot (z ▸ ha)
    · rw [f1_n e]
      exact h.nd _
  · have hm := h.mem (c := d) (p := q)
    show q ∈ f1 (sL σ) _ _ d ↔ f2 (f2 (f2 (sP σ) p 4 (c + 1)) p 5 (sC σ c 5)) p 6 (sP σ p 6 + 1) q 4 = d + 1
    have e4 : f2 (f2 (f2 (sP σ) p 4 (c + 1)) p 5 (sC σ c 5)) p 6 (sP σ p 6 + 1) q 4 = if q = p then c + 1 else sP σ q 4 := by
      rw [f2_n (fun z => by omega), f2_n (fun z => by omega), f2_or]
      simp
    rw [e4]
    by_cases e : d = c
    · subst e
      rw [f1_s, List.mem_append, List.mem_singleton, hm]
      by_cases e5 : q = p
      · subst e5; simp
      · simp [e5]
    · rw [f1_n e, hm]
      by_cases e5 : q = p
      · subst e5
        rw [if_pos rfl]
        omega
      · rw [if_neg e5]
theorem sout_P4 {σ : q_S} (h : WFc σ) (p : Nat) : sP (sout σ p) p 4 = 0 := by
  unfold sout
  by_cases e0 : sP σ p 4 = 0
  · rw [if_pos e0]; exact e0
  · rw [if_neg e0, sP_mk]; simp [f2]
theorem sout_P {σ : q_S} (p q : Nat) {j : Nat} (h4 : ¬ j = 4) (h5 : ¬ j = 5) : sP (sout σ p) q j = sP σ q j := by
  unfold sout
  by_cases e0 : sP σ p 4 = 0
  · rw [if_pos e0]
  · rw [if_neg e0]
    show f2 (f2 (sP σ) p 4 0) p 5 0 q j = _
    rw [f2_n (fun z => h5 z.2), f2_n (fun z => h4 z.2)]
theorem sout_N (σ : q_S) (p : Nat) : sN (sout σ p) = sN σ := by
  unfold sout
  split <;> rfl
theorem sout_C (σ : q_S) (p : Nat) : sC (sout σ p) = sC σ := by
  unfold sout
  split <;> rfl
theorem sout_R (σ : q_S) (p : Nat) : sR (sout σ p) = sR σ := by
  unfold sout
  split <;> rfl
theorem sout_L {σ : q_S} {p c : Nat} (h : ¬ c + 1 = sP σ p 4) : sL (sout σ p) c = sL σ c := by
  unfold sout
  by_cases e0 : sP σ p 4 = 0
  · rw [if_pos e0]
  · rw [if_neg e0]
    show f1 (sL σ) _ _ c = _
    rw [f1_n (by omega)]
theorem WFc.move {σ : q_S} (h : WFc σ) {p : Nat} (hp : p < sN σ 2) (hb : ¬ sbet σ p = 0) : WFc (smove σ p) := by
  obtain ⟨h0, ⟨hw, hs, hl⟩, hne, -⟩ := sbet_spec hb
  have hle := sbet_le h p
  have hL : sL (sout σ p) (sbet σ p - 1) = sL σ (sbet σ p - 1) := sout_L (by omega)
  exact (h.out p).inn (by rw [sout_N]; exact hp) (by rw [sout_P p p (by omega) (by omega)]; exact h0) (sout_P4 h p) (by rw [sout_N]; omega) (by rw [sout_C]; exact hs) (by rw [sout_C, sLen, hL]; exact hl)
theorem WFc.set {σ : q_S} (n : Nat) (h : WFc σ) : WFc (sset n σ) := by
  induction n generalizing σ with
  | zero => exact h
  | succ n ih =>
    unfold sset
    by_cases e : spk σ (sN σ 2) 0 < sN σ 2
    · rw [if_pos e]
      exact ih (h.move e ((spk_spec σ (sN σ 2) 0).2.2.1 (by omega)))
    · rw [if_neg e]; exact h
theorem smove_N (σ : q_S) (p : Nat) : sN (smove σ p) = sN σ := sout_N σ p
theorem smove_C (σ : q_S) (p : Nat) : sC (smove σ p) = sC σ := sout_C σ p
theorem smove_R (σ : q_S) (p : Nat) : sR (smove σ p) = sR σ := sout_R σ p
theorem sset_NCR (n : Nat) (σ : q_S) : sN (sset n σ) = sN σ ∧ sC (sset n σ) = sC σ ∧ sR (sset n σ) = sR σ := by
  induction n generalizing σ with
  | zero => exact ⟨rfl, rfl, rfl⟩
  | succ n ih =>
    unfold sset
    split
    · obtain ⟨h1, h2, h3⟩ := ih (smove σ (spk σ (sN σ 2) 0))
      exact ⟨h1.trans (smove_N _ _), h2.trans (smove_C _ _), h3.trans (smove_R _ _)⟩
    · exact ⟨rfl, rfl, rfl⟩
end
section
/-! the class's season: moves and the settling -/
theorem RC.eq {b : Nat} {I : q_Mem} {σ τ : q_S} (h : RC b I σ) (e : σ = τ) : RC b I τ := e ▸ h
/-- a row of the class's members anew, as add and remove leave them -/
theorem FC.of {b : Nat} {I J : q_Mem} (h : ∀ i j, (i < b ∨ b + 50 ≤ i) → J i j = I i j) : FC b I J := fun i hi => funext fun j => h i j hi
theorem c_removeS {b c p : Nat} {I : q_Mem} {σ : q_S} (hk : q_kd b = 3) (h : RC b I σ) (hw : WFc σ) (hc : c < 8) (hp : p < 30) : q_M kX0_remove [.ref (b + 4 + 2 * c), .int (nI p)] I (fun v J => v = none ∧ RC b J (uL σ c ((sL σ c).filter (· != p))) ∧ FC b I J) := by
  refine (c_remove (l := sL σ c) (kSC hk hc) (h.len hc) (fun r v hr => by rw [show b + 4 + 2 * c + 1 = b + 5 + 2 * c by omega]; exact h.m hc hr) (hw.len c) (fun v hv => by have := hw.mlt30 hv; omega) (by omega)).mono ?_
  rintro v J ⟨rfl, h1, h2, h3⟩
  refine ⟨rfl, h.L hc h1 (fun r v hr => ?_) (fun i j q1 q2 => h3 i j (by omega) q2), FC.of fun i j q => h3 i j (by omega) (by omega)⟩
  have := h2 r v hr
  rwa [show b + 4 + 2 * c + 1 = b + 5 + 2 * c by omega] at this
theorem c_addS {b c p : Nat} {I : q_Mem} {σ : q_S} (hk : q_kd b = 3) (h : RC b I σ) (hc : c < 8) (hl : sLen σ c < 20) : q_M kX0_add [.ref (b + 4 + 2 * c), .int (nI p)] I (fun v J => v = none ∧ RC b J (uL σ c (sL σ c ++ [p])) ∧ FC b I J) := by
  refine (c_add (kSC hk hc) (h.len hc) hl).mono ?_
  rintro v J ⟨rfl, rfl⟩
  refine ⟨rfl, h.L hc ?_ (fun r v hr => ?_) (fun i j q1 q2 => ?_), FC.of fun i j q => ?_⟩
  · rw [q_up_s, List.length_append]; rfl
  · rw [q_up_n (by omega), show b + 4 + 2 * c + 1 = b + 5 + 2 * c by omega]
    by_cases e : r = sLen σ c
    · subst e
      rw [q_up_s]
      rw [List.getElem?_append_right (Nat.le_refl _), Nat.sub_self] at hr
      cases hr
      rfl
    · rw [q_up_n (fun z => e z.2)]
      rcases Nat.lt_or_ge r (sL σ c).length with q | q
      · rw [List.getElem?_append_left q] at hr
        exact h.m hc hr
      · have : (sL σ c).length ≠ r := fun z => e z.symm
        rw [List.getElem?_append_right q, List.getElem?_eq_none (by simp; omega)] at hr
        cases hr
  · rw [q_up_n q2, q_up_n (by omega)]
  · rw [q_up_n (by omega), q_up_n (by omega)]
theorem c_goOut {b p : Nat} {I : q_Mem} {σ : q_S} (hk : q_kd b = 3) (h : RC b I σ) (hw : WFc σ) (hp : p < 30) : q_M kX3_goOut [.ref b, .ref (b + 20 + p)] I (fun v J => v = none ∧ RC b J (sout σ p) ∧ FC b I J) := by
  have hkp := kSP hk hp
  have hpr := hw.pr p
  have h8 : sN σ 0 ≤ 8 := hw.B.1
  refine q_M.of pnX3_goOut (by simp [Value.category]) (Nat.le_of_ble_eq_true rfl) ?_
  refine q_aload_n dX3_goOut_0 rfl ?_
  refine q_aload_n dX3_goOut_1 rfl ?_
  refine q_getI fl_RX3_182 rfl (by assumption) (h.p hp (j := 4) (by omega)) dX3_goOut_2 ?_
  refine q_cV (as := [_]) lk_RX3_123 (c_courseAtE hk h hw.B.1 hpr.2.2.2.2.1) (Or.inl ⟨3, by decide, by assumption, rfl⟩) rfl (by decide) (Nat.le_of_ble_eq_true rfl) dX3_goOut_5 ?_
  rintro v J ⟨rfl, rfl⟩
  have key : ∀ (J : q_Mem) (τ : q_S) (o : Option Value), RC b J τ → FC b I J → τ = (if sP σ p 4 = 0 then σ else uL σ (sP σ p 4 - 1) ((sL σ (sP σ p 4 - 1)).filter (· != p))) → q_X kX3_goOut 21 [some (.ref b), some (.ref (b + 20 + p)), o] [] J (fun v J => v = none ∧ RC b J (sout σ p) ∧ FC b I J) := by
    intro J τ o h hF e
    have eP : sP τ = sP σ := by rw [e]; split <;> rfl
    have eG : sG τ = sG σ := by rw [e]; split <;> rfl
    refine q_aload_n dX3_goOut_21 rfl ?_
    refine q_iconst (v := -1) dX3_goOut_22 (by decide) ?_
    refine q_putI ⟨fl_RX3_182, rfl, rfl⟩ (by assumption) ⟨rfl, rfl⟩ dX3_goOut_23 ?_
    have h : RC b (q_up J (b + 20 + p) 2 (-1)) (uP τ p 4 0) := h.P (j := 4) hp (by omega) rfl
    have hF := hF.up (a := b + 20 + p) (j := 2) (x := -1) (by omega) (by omega)
    generalize q_up J (b + 20 + p) 2 (-1) = J1 at h hF ⊢
    refine q_aload_n dX3_goOut_26 rfl ?_
    refine q_dup dX3_goOut_27 rfl ?_
    refine q_getI fl_RX3_70 rfl (by assumption) (h.g (j := 3) (by omega)) dX3_goOut_28 ?_
    refine q_aload_n dX3_goOut_31 rfl ?_
    refine q_getI fl_RX3_119 rfl (by assumption) (h.p hp (j := 5) (by omega)) dX3_goOut_32 ?_
    have e5 : penc 5 (sP (uP τ p 4 0) p 5) = nI (sP σ p 5) := by
      rw [sP_mk, f2_n (by omega), eP]; rfl
    rw [e5, sG_mk, eG]
    refine q_iadd dX3_goOut_35 ?_
    rw [nI_add]
    refine q_putI ⟨fl_RX3_70, rfl, rfl⟩ (by assumption) ⟨rfl, rfl⟩ dX3_goOut_36 ?_
    have h : RC b (q_up J1 b 9 (nI (sG σ 3 + sP σ p 5))) (uG (uP τ p 4 0) 3 (sG σ 3 + sP σ p 5)) := h.G (j := 3) (by omega) rfl
    have hF := hF.up (a := b) (j := 9) (x := nI (sG σ 3 + sP σ p 5)) (by omega) (by omega)
    generalize q_up J1 b 9 (nI (sG σ 3 + sP σ p 5)) = J2 at h hF ⊢
    refine q_aload_n dX3_goOut_39 rfl ?_
    refine q_iconst (v := nI 0) dX3_goOut_40 (by decide) ?_
    refine q_putI ⟨fl_RX3_119, rfl, rfl⟩ (by assumption) ⟨rfl, rfl⟩ dX3_goOut_41 ?_
    have h : RC b (q_up J2 (b + 20 + p) 3 (nI 0)) (uP (uG (uP τ p 4 0) 3 (sG σ 3 + sP σ p 5)) p 5 0) := h.P (j := 5) hp (by omega) rfl
    have hF := hF.up (a := b + 20 + p) (j := 3) (x := nI 0) (by omega) (by omega)
    refine q_vret rfl dX3_goOut_44 ⟨rfl, h.eq ?_, hF⟩
    unfold sout
    by_cases e0 : sP σ p 4 = 0
    · rw [if_pos e0] at e ⊢
      subst e
      have e50 := hpr.2.2.2.2.2.2.1 e0
      show (sN τ, f1 (sG τ) 3 (sG τ 3 + sP τ p 5), sC τ, sL τ, f2 (f2 (sP τ) p 4 0) p 5 0, sR τ) = τ
      rw [f1_id (by rw [e50]; rfl), f2_id (f := sP τ) e0, f2_id e50]
    · rw [if_neg e0] at e ⊢
      subst e
      rfl
  by_cases e0 : sP σ p 4 = 0
  · rw [crf, if_pos e0]
    refine q_astore_nN (ls' := [_, _, _]) dX3_goOut_8 (Nat.le_of_ble_eq_true rfl) rfl ?_
    refine q_aload_nN dX3_goOut_9 rfl ?_
    refine q_ifnullN (tgt := 21) dX3_goOut_10 (by decide) ?_
    exact key I σ _ h FC.rf (by rw [if_pos e0])
  · rw [crf, if_neg e0]
    have hc8 : sP σ p 4 - 1 < 8 := by have := hpr.2.2.2.2.1; omega
    refine q_astore_n (ls' := [_, _, _]) dX3_goOut_8 (Nat.le_of_ble_eq_true rfl) rfl ?_
    refine q_aload_n dX3_goOut_9 rfl ?_
    refine q_ifnull dX3_goOut_10 ?_
    refine q_aload_n dX3_goOut_13 rfl ?_
    refine q_aload_n dX3_goOut_14 rfl ?_
    refine q_getI fl_RX3_110 rfl (by assumption) (h.pn hp) dX3_goOut_15 ?_
    refine q_cV (as := [_]) lk_RX3_198 (c_removeS hk h hw hc8 hp) (Or.inl ⟨0, by decide, kSC hk hc8, rfl⟩) rfl (by decide) (Nat.le_of_ble_eq_true rfl) dX3_goOut_18 ?_
    rintro v J ⟨rfl, h1, h2⟩
    exact key J _ _ h1 h2 (by rw [if_neg e0])
theorem c_comeInto {b p c : Nat} {I : q_Mem} {σ : q_S} (hk : q_kd b = 3) (h : RC b I σ) (hp : p < 30) (hc : c < 8) (hl : sLen σ c < 20) : q_M kX3_comeInto [.ref b, .ref (b + 20 + p), .ref (b + 4 + 2 * c)] I (fun v J => v = none ∧ RC b J (sin σ p c) ∧ FC b I J) := by
  have hkp := kSP hk hp
  have hkc := kSC hk hc
  refine q_M.of pnX3_comeInto (by simp [Value.category]) (Nat.le_of_ble_eq_true rfl) ?_
  refine q_aload_n dX3_comeInto_0 rfl ?_
  refine q_aload_n dX3_comeInto_1 rfl ?_
  refine q_getI fl_RX3_110 rfl (by assumption) (h.pn hp) dX3_comeInto_2 ?_
  refine q_cV (as := [_]) lk_RX3_189 (c_addS hk h hc hl) (Or.inl ⟨0, by decide, by assumption, rfl⟩) rfl (by decide) (Nat.le_of_ble_eq_true rfl) dX3_comeInto_5 ?_
  rintro v J ⟨rfl, h, hF⟩
  refine q_aload_n dX3_comeInto_8 rfl ?_
  refine q_aload_n dX3_comeInto_9 rfl ?_
  refine q_getI fl_RX3_96 rfl (by assumption) (h.cn hc) dX3_comeInto_10 ?_
  refine q_putI ⟨fl_RX3_182, rfl, rfl⟩ (by assumption) ⟨rfl, rfl⟩ dX3_comeInto_13 ?_
  have h : RC b (q_up J (b + 20 + p) 2 (nI c)) (uP (uL σ c (sL σ c ++ [p])) p 4 (c + 1)) := h.P (j := 4) hp (by omega) rfl
  have hF := hF.up (a := b + 20 + p) (j := 2) (x := nI c) (by omega) (by omega)
  generalize q_up J (b + 20 + p) 2 (nI c) = J1 at h hF ⊢
  refine q_aload_n dX3_comeInto_16 rfl ?_
  refine q_aload_n dX3_comeInto_17 rfl ?_
  refine q_getI fl_RX3_192 rfl (by assumption) (h.c hc (j := 5) (by omega)) dX3_comeInto_18 ?_
  refine q_putI ⟨fl_RX3_119, rfl, rfl⟩ (by assumption) ⟨rfl, rfl⟩ dX3_comeInto_21 ?_
  have h : RC b (q_up J1 (b + 20 + p) 3 (cenc 5 (sC σ c 5))) (uP (uP (uL σ c (sL σ c ++ [p])) p 4 (c + 1)) p 5 (sC σ c 5)) := h.P (j := 5) hp (by omega) rfl
  have hF := hF.up (a := b + 20 + p) (j := 3) (x := cenc 5 (sC σ c 5)) (by omega) (by omega)
  rw [sC_mk]
  generalize q_up J1 (b + 20 + p) 3 (cenc 5 (sC σ c 5)) = J2 at h hF ⊢
  refine q_aload_n dX3_comeInto_24 rfl ?_
  refine q_dup dX3_comeInto_25 rfl ?_
  refine q_getI fl_RX3_195 rfl (by assumption) (h.p hp (j := 6) (by omega)) dX3_comeInto_26 ?_
  refine q_iconst (v := nI 1) dX3_comeInto_29 (by decide) ?_
  refine q_iadd dX3_comeInto_30 ?_
  have e6 : penc 6 (sP (uP (uP (uL σ c (sL σ c ++ [p])) p 4 (c + 1)) p 5 (sC σ c 5)) p 6) = nI (sP σ p 6) := by
    rw [sP_mk, f2_n (by omega), sP_mk, f2_n (by omega)]; rfl
  rw [e6, nI_add]
  refine q_putI ⟨fl_RX3_195, rfl, rfl⟩ (by assumption) ⟨rfl, rfl⟩ dX3_comeInto_31 ?_
  have h : RC b (q_up J2 (b + 20 + p) 4 (nI (sP σ p 6 + 1))) (uP (uP (uP (uL σ c (sL σ c ++ [p])) p 4 (c + 1)) p 5 (sC σ c 5)) p 6 (sP σ p 6 + 1)) := h.P (j := 6) hp (by omega) rfl
  have hF := hF.up (a := b + 20 + p) (j := 4) (x := nI (sP σ p 6 + 1)) (by omega) (by omega)
  generalize q_up J2 (b + 20 + p) 4 (nI (sP σ p 6 + 1)) = J3 at h hF ⊢
  refine q_aload_n dX3_comeInto_34 rfl ?_
  refine q_dup dX3_comeInto_35 rfl ?_
  refine q_getI fl_RX3_67 rfl (by assumption) (h.g (j := 2) (by omega)) dX3_comeInto_36 ?_
  refine q_aload_n dX3_comeInto_39 rfl ?_
  refine q_getI fl_RX3_192 rfl (by assumption) (h.c hc (j := 5) (by omega)) dX3_comeInto_40 ?_
  refine q_iadd dX3_comeInto_43 ?_
  rw [show nI (sG (uP (uP (uP (uL σ c (sL σ c ++ [p])) p 4 (c + 1)) p 5 (sC σ c 5)) p 6 (sP σ p 6 + 1)) 2) + cenc 5 (sC (uP (uP (uP (uL σ c (sL σ c ++ [p])) p 4 (c + 1)) p 5 (sC σ c 5)) p 6 (sP σ p 6 + 1)) c 5) = nI (sG σ 2 + sC σ c 5) from nI_add _ _]
  refine q_putI ⟨fl_RX3_67, rfl, rfl⟩ (by assumption) ⟨rfl, rfl⟩ dX3_comeInto_44 ?_
  have h : RC b (q_up J3 b 8 (nI (sG σ 2 + sC σ c 5))) (uG (uP (uP (uP (uL σ c (sL σ c ++ [p])) p 4 (c + 1)) p 5 (sC σ c 5)) p 6 (sP σ p 6 + 1)) 2 (sG σ 2 + sC σ c 5)) := h.G (j := 2) (by omega) rfl
  have hF := hF.up (a := b) (j := 8) (x := nI (sG σ 2 + sC σ c 5)) (by omega) (by omega)
  generalize q_up J3 b 8 (nI (sG σ 2 + sC σ c 5)) = J4 at h hF ⊢
  refine q_aload_n dX3_comeInto_47 rfl ?_
  refine q_dup dX3_comeInto_48 rfl ?_
  refine q_getI fl_RX3_76 rfl (by assumption) (h.g (j := 5) (by omega)) dX3_comeInto_49 ?_
  refine q_iconst (v := nI 1) dX3_comeInto_52 (by decide) ?_
  refine q_iadd dX3_comeInto_53 ?_
  rw [show nI (sG (uG (uP (uP (uP (uL σ c (sL σ c ++ [p])) p 4 (c + 1)) p 5 (sC σ c 5)) p 6 (sP σ p 6 + 1)) 2 (sG σ 2 + sC σ c 5)) 5) + nI 1 = nI (sG σ 5 + 1) from nI_add _ _]
  refine q_putI ⟨fl_RX3_76, rfl, rfl⟩ (by assumption) ⟨rfl, rfl⟩ dX3_comeInto_54 ?_
  have h : RC b (q_up J4 b 11 (nI (sG σ 5 + 1))) (uG (uG (uP (uP (uP (uL σ c (sL σ c ++ [p])) p 4 (c + 1)) p 5 (sC σ c 5)) p 6 (sP σ p 6 + 1)) 2 (sG σ 2 + sC σ c 5)) 5 (sG σ 5 + 1)) := h.G (j := 5) (by omega) rfl
  have hF := hF.up (a := b) (j := 11) (x := nI (sG σ 5 + 1)) (by omega) (by omega)
  exact q_vret rfl dX3_comeInto_57 ⟨rfl, h, hF⟩
theorem c_settle {b : Nat} {I : q_Mem} {σ : q_S} (hk : q_kd b = 3) (h : RC b I σ) (hw : WFc σ) : q_M kX3_settle [.ref b] I (fun v J => v = none ∧ RC b J (sset 1000 σ) ∧ FC b I J) := by
  have outer : ∀ (n i : Nat) (J : q_Mem) (τ : q_S) (o2 o3 o4 : Option Value), n + i = 1000 → RC b J τ → WFc τ → FC b I J → q_X kX3_settle 2 [some (.ref b), some (.int (nI i)), o2, o3, o4] [] J (fun v J => v = none ∧ RC b J (sset n τ) ∧ FC b I J) := by
    intro n
    induction n with
    | zero =>
      intro i J τ o2 o3 o4 hn h hw hF
      refine q_iload_n dX3_settle_2 rfl ?_
      refine q_sipush (v := nI 1000) dX3_settle_3 (by decide) ?_
      refine q_icmp_geN (tgt := 82) (by omega) (by omega) dX3_settle_6 (by decide) (fun h1 => ?_) (fun h1 => ?_)
      · exact q_vret rfl dX3_settle_82 ⟨rfl, h, hF⟩
      · omega
    | succ n ih =>
      intro i J τ o2 o3 o4 hn h hw hF
      have hP30 : sN τ 2 ≤ 30 := hw.B.2.2.1
      have inner : ∀ (d k : Nat) (mv : Value), k + d = sN τ 2 → (mv = .null ∨ ∃ r, mv = .ref r) → (spk τ d k = spk τ (sN τ 2) 0) → q_X kX3_settle 16 [some (.ref b), some (.int (nI i)), some .null, some mv, some (.int (nI k))] [] J (fun v J => v = none ∧ RC b J (sset (n + 1) τ) ∧ FC b I J) := by
        intro d
        induction d with
        | zero =>
          intro k mv hd hmv hs
          refine q_iload dX3_settle_16 rfl ?_
          refine q_aload_n dX3_settle_18 rfl ?_
          refine q_getI fl_RX3_54 rfl (by assumption) (h.n (j := 2) (by omega)) dX3_settle_19 ?_
          refine q_icmp_geN (tgt := 56) (by omega) (by omega) dX3_settle_22 (by decide) (fun h1 => ?_) (fun h1 => ?_)
          · refine q_aload_nN dX3_settle_56 rfl ?_
            refine q_ifnullN (tgt := 64) dX3_settle_57 (by decide) ?_
            refine q_vret rfl dX3_settle_64 ⟨rfl, ?_, hF⟩
            unfold sset
            rw [← hs, if_neg (by rw [spk]; omega)]
            exact h
          · omega
        | succ d ihd =>
          intro k mv hd hmv hs
          have hk30 : k < 30 := by omega
          refine q_iload dX3_settle_16 rfl ?_
          refine q_aload_n dX3_settle_18 rfl ?_
          refine q_getI fl_RX3_54 rfl (by assumption) (h.n (j := 2) (by omega)) dX3_settle_19 ?_
          refine q_icmp_geN (tgt := 56) (by omega) (by omega) dX3_settle_22 (by decide) (fun h1 => ?_) (fun h1 => ?_)
          · omega
          refine q_aload_nN dX3_settle_25 rfl ?_
          refine q_ifnonnullN dX3_settle_26 ?_
          refine q_aload_n dX3_settle_29 rfl ?_
          refine q_iload dX3_settle_30 rfl ?_
          refine q_cV (as := [_]) lk_RX3_111 (c_personAtN hk h hw.B.2.2.1 (p := k) (by omega)) (Or.inl ⟨3, by decide, by assumption, rfl⟩) rfl (by decide) (Nat.le_of_ble_eq_true rfl) dX3_settle_32 ?_
          rintro v J' ⟨rfl, rfl⟩
          refine q_astore_n (ls' := [_, _, _, _, _]) dX3_settle_35 (Nat.le_of_ble_eq_true rfl) rfl ?_
          refine q_aload_n dX3_settle_36 rfl ?_
          refine q_ifnonnull (tgt := 44) dX3_settle_37 (by decide) ?_
          refine q_aload_n dX3_settle_44 rfl ?_
          refine q_aload_n dX3_settle_45 rfl ?_
          refine q_cV (as := [_]) lk_RX3_171 (c_better hk h hw hk30) (Or.inl ⟨3, by decide, by assumption, rfl⟩) rfl (by decide) (Nat.le_of_ble_eq_true rfl) dX3_settle_46 ?_
          rintro v J' ⟨rfl, rfl⟩
          by_cases e : sbet τ k = 0
          · rw [crf, if_pos e]
            refine q_astore_nN (ls' := [_, _, _, _, _]) dX3_settle_49 (Nat.le_of_ble_eq_true rfl) rfl ?_
            refine q_iinc (ls' := [_, _, _, _, _]) dX3_settle_50 rfl (nI_add _ 1) rfl ?_
            refine q_goto (tgt := 16) dX3_settle_53 (by decide) ?_
            rw [spk, if_pos e] at hs
            exact ihd (k + 1) _ (by omega) (Or.inr ⟨_, rfl⟩) hs
          · rw [crf, if_neg e]
            have hsp := sbet_spec e
            have hle := sbet_le hw k
            have h8 : sN τ 0 ≤ 8 := hw.B.1
            have hkc : sbet τ k - 1 < 8 := by omega
            rw [spk, if_neg e] at hs
            refine q_astore_n (ls' := [_, _, _, _, _]) dX3_settle_49 (Nat.le_of_ble_eq_true rfl) rfl ?_
            have tail : ∀ o4, q_X kX3_settle 56 [some (.ref b), some (.int (nI i)), some (.ref (b + 4 + 2 * (sbet τ k - 1))), some (.ref (b + 20 + k)), o4] [] J (fun v J => v = none ∧ RC b J (sset (n + 1) τ) ∧ FC b I J) := by
              intro o4
              refine q_aload_n dX3_settle_56 rfl ?_
              refine q_ifnull dX3_settle_57 ?_
              refine q_aload_n dX3_settle_60 rfl ?_
              refine q_ifnonnull (tgt := 65) dX3_settle_61 (by decide) ?_
              refine q_aload_n dX3_settle_65 rfl ?_
              refine q_aload_n dX3_settle_66 rfl ?_
              refine q_cV (as := [_]) lk_RX3_120 (c_goOut hk h hw hk30) (Or.inl ⟨3, by decide, by assumption, rfl⟩) rfl (by decide) (Nat.le_of_ble_eq_true rfl) dX3_settle_67 ?_
              rintro v J2 ⟨rfl, h2, hF2⟩
              refine q_aload_n dX3_settle_70 rfl ?_
              refine q_aload_n dX3_settle_71 rfl ?_
              refine q_aload_n dX3_settle_72 rfl ?_
              have hL : sL (sout τ k) (sbet τ k - 1) = sL τ (sbet τ k - 1) := sout_L (by have := hsp.2.2.1; have := hsp.2.1.1; omega)
              have h20 : sLen τ (sbet τ k - 1) < 20 := Nat.lt_of_lt_of_le hsp.2.1.2.2 (hw.cr hkc).2.2.2.2.1
              refine q_cV (as := [_, _]) lk_RX3_175 (c_comeInto hk h2 hk30 hkc (by rw [sLen, hL]; exact h20)) (Or.inl ⟨3, by decide, by assumption, rfl⟩) rfl (by decide) (Nat.le_of_ble_eq_true rfl) dX3_settle_73 ?_
              rintro v J3 ⟨rfl, h3, hF3⟩
              refine q_iinc (ls' := [_, _, _, _, _]) dX3_settle_76 rfl (nI_add _ 1) rfl ?_
              refine q_goto (tgt := 2) dX3_settle_79 (by decide) ?_
              refine (ih (i + 1) J3 (smove τ k) _ _ _ (by omega) h3 (hw.move (by omega) e) ((hF.tr hF2).tr hF3)).mono ?_
              rintro v J4 ⟨rfl, h4, hF4⟩
              refine ⟨rfl, ?_, hF4⟩
              unfold sset
              rw [← hs, if_pos (by omega)]
              exact h4
            refine q_iinc (ls' := [_, _, _, _, _]) dX3_settle_50 rfl (nI_add _ 1) rfl ?_
            refine q_goto (tgt := 16) dX3_settle_53 (by decide) ?_
            refine q_iload dX3_settle_16 rfl ?_
            refine q_aload_n dX3_settle_18 rfl ?_
            refine q_getI fl_RX3_54 rfl (by assumption) (h.n (j := 2) (by omega)) dX3_settle_19 ?_
            refine q_icmp_geN (tgt := 56) (by omega) (by omega) dX3_settle_22 (by decide) (fun h3 => ?_) (fun h3 => ?_)
            · exact tail _
            · refine q_aload_n dX3_settle_25 rfl ?_
              refine q_ifnonnull (tgt := 56) dX3_settle_26 (by decide) ?_
              exact tail _
      refine q_iload_n dX3_settle_2 rfl ?_
      refine q_sipush (v := nI 1000) dX3_settle_3 (by decide) ?_
      refine q_icmp_geN (tgt := 82) (by omega) (by omega) dX3_settle_6 (by decide) (fun h1 => ?_) (fun h1 => ?_)
      · omega
      refine q_null dX3_settle_9 ?_
      refine q_astore_nN (ls' := [_, _, _, _, _]) dX3_settle_10 (Nat.le_of_ble_eq_true rfl) rfl ?_
      refine q_null dX3_settle_11 ?_
      refine q_astore_nN (ls' := [_, _, _, _, _]) dX3_settle_12 (Nat.le_of_ble_eq_true rfl) rfl ?_
      refine q_iconst (v := nI 0) dX3_settle_13 (by decide) ?_
      refine q_istore (ls' := [_, _, _, _, _]) dX3_settle_14 (Nat.le_of_ble_eq_true rfl) rfl ?_
      exact inner (sN τ 2) 0 _ (by omega) (Or.inl rfl) rfl
  refine q_M.of pnX3_settle (by simp [Value.category]) (Nat.le_of_ble_eq_true rfl) ?_
  refine q_iconst (v := nI 0) dX3_settle_0 (by decide) ?_
  refine q_istore_n (ls' := [_, _, _, _, _]) dX3_settle_1 (Nat.le_of_ble_eq_true rfl) rfl ?_
  exact outer 1000 0 I σ _ _ _ rfl h hw FC.rf
end
section
/-! facts of choosing, merging and cancelling -/
theorem ssm_le (σ : q_S) : ∀ k, ssm σ k ≤ k := by
  intro k
  induction k with
  | zero => exact Nat.le_refl _
  | succ k ih => rw [ssm]; split <;> omega
theorem sft_le (σ : q_S) (c : Nat) : ∀ k, sft σ c k ≤ k := by
  intro k
  induction k with
  | zero => exact Nat.le_refl _
  | succ k ih => rw [sft]; split <;> omega
theorem sgr_le (σ : q_S) : ∀ k, sgr σ k ≤ k := by
  intro k
  induction k with
  | zero => exact Nat.le_refl _
  | succ k ih => rw [sgr]; split <;> omega
theorem ssm_spec (σ : q_S) : ∀ k, ¬ ssm σ k = 0 → sC σ (ssm σ k - 1) 6 = 1 ∧ sLen σ (ssm σ k - 1) < sC σ (ssm σ k - 1) 3 := by
  intro k
  induction k with
  | zero => intro h; exact absurd rfl h
  | succ k ih =>
    intro h
    by_cases e : sC σ k 6 = 1 ∧ sLen σ k < sC σ k 3 ∧ (ssm σ k = 0 ∨ sLen σ k < sLen σ (ssm σ k - 1))
    · rw [ssm, if_pos e]; exact ⟨e.1, e.2.1⟩
    · rw [ssm, if_neg e] at h ⊢; exact ih h
theorem sft_spec (σ : q_S) (c : Nat) : ∀ k, ¬ sft σ c k = 0 → sC σ (sft σ c k - 1) 6 = 1 ∧ ¬ sft σ c k - 1 = c ∧ sLen σ (sft σ c k - 1) + sLen σ c ≤ sC σ (sft σ c k - 1) 4 := by
  intro k
  induction k with
  | zero => intro h; exact absurd rfl h
  | succ k ih =>
    intro h
    by_cases e : 0 < sLen σ c ∧ (sC σ k 6 = 1 ∧ ¬ k = c ∧ sC σ k 0 = sC σ c 0 ∧ slv σ k c ≤ 1 ∧ sLen σ k + sLen σ c ≤ sC σ k 4) ∧ (sft σ c k = 0 ∨ slv σ k c < slv σ (sft σ c k - 1) c ∨ (slv σ k c = slv σ (sft σ c k - 1) c ∧ sLen σ (sft σ c k - 1) < sLen σ k))
    · rw [sft, if_pos e]; exact ⟨e.2.1.1, e.2.1.2.1, e.2.1.2.2.2.2⟩
    · rw [sft, if_neg e] at h ⊢; exact ih h
theorem sgr_spec (σ : q_S) : ∀ k, ¬ sgr σ k = 0 → sC σ (sgr σ k - 1) 6 = 1 := by
  intro k
  induction k with
  | zero => intro h; exact absurd rfl h
  | succ k ih =>
    intro h
    by_cases e : sC σ k 6 = 1 ∧ (sgr σ k = 0 ∨ sLen σ (sgr σ k - 1) < sLen σ k)
    · rw [sgr, if_pos e]; exact e.1
    · rw [sgr, if_neg e] at h ⊢; exact ih h
theorem smgs_snoc (d p : Nat) : ∀ (l : List Nat) (σ : q_S), smgs d (l ++ [p]) σ = smg1 (smgs d l σ) d p := by
  intro l
  induction l with
  | nil => intro σ; rfl
  | cons q l ih => intro σ; exact ih _
/-- what stays while people go into d -/
theorem smgs_keep (d : Nat) : ∀ (l : List Nat) (σ : q_S), sN (smgs d l σ) = sN σ ∧ sC (smgs d l σ) = sC σ ∧ sR (smgs d l σ) = sR σ ∧ (∀ c, ¬ c = d → sL (smgs d l σ) c = sL σ c) ∧ sL (smgs d l σ) d = sL σ d ++ l ∧ (∀ p, p ∉ l → sP (smgs d l σ) p = sP σ p) := by
  intro l
  induction l with
  | nil => intro σ; exact ⟨rfl, rfl, rfl, fun _ _ => rfl, (List.append_nil _).symm, fun _ _ => rfl⟩
  | cons q l ih =>
    intro σ
    obtain ⟨h1, h2, h3, h4, h5, h6⟩ := ih (smg1 σ d q)
    refine ⟨h1, h2, h3, fun c hc => (h4 c hc).trans (f1_n hc), ?_, fun p hp => ?_⟩
    · rw [smgs, h5]
      show f1 (sL σ) d (sL σ d ++ [q]) d ++ l = _
      rw [f1_s, List.append_assoc]; rfl
    · have hq : ¬ p = q := fun e => hp (by rw [e]; exact List.mem_cons_self)
      rw [smgs, h6 p (fun e => hp (List.mem_cons_of_mem _ e))]
      funext j
      show f2 _ q 5 _ p j = _
      rw [f2_n (fun z => hq z.1), f2_n (fun z => hq z.1), f2_n (fun z => hq z.1)]
/-- what each of those who go into d has behind it (a list without one twice) -/
theorem smgs_P (d : Nat) : ∀ (l : List Nat) (σ : q_S), l.Nodup → ∀ p, p ∈ l → ∀ j, sP (smgs d l σ) p j = if j = 4 then d + 1 else if j = 6 then sP σ p 6 + 1 else if j = 5 then sP σ p 5 - (sP σ p 5 - sC σ d 5) else sP σ p j := by
  intro l
  induction l with
  | nil => intro σ _ p hp; cases hp
  | cons q l ih =>
    intro σ hn p hp j
    obtain ⟨hq, hn⟩ := List.nodup_cons.mp hn
    have e1 : ∀ j, sP (smg1 σ d q) q j = if j = 4 then d + 1 else if j = 6 then sP σ q 6 + 1 else if j = 5 then sP σ q 5 - (sP σ q 5 - sC σ d 5) else sP σ q j := by
      intro j
      show f2 (f2 (f2 (sP σ) q 4 (d + 1)) q 6 (sP σ q 6 + 1)) q 5 _ q j = _
      by_cases j5 : j = 5
      · subst j5; rw [f2_s]; simp
      · rw [f2_n (fun z => j5 z.2)]
        by_cases j6 : j = 6
        · subst j6; rw [f2_s]; simp
        · rw [f2_n (fun z => j6 z.2)]
          by_cases j4 : j = 4
          · subst j4; rw [f2_s]; simp
          · rw [f2_n (fun z => j4 z.2), if_neg j4, if_neg j6, if_neg j5]
    rcases List.mem_cons.mp hp with rfl | hp
    · rw [smgs, (smgs_keep d l _).2.2.2.2.2 p hq]
      exact e1 j
    · have hpq : ¬ p = q := fun e => hq (e ▸ hp)
      have e2 : sP (smg1 σ d q) p = sP σ p := by
        funext j
        show f2 _ q 5 _ p j = _
        rw [f2_n (fun z => hpq z.1), f2_n (fun z => hpq z.1), f2_n (fun z => hpq z.1)]
      rw [smgs, ih _ hn p hp j, e2]
      rfl
theorem WFc.merge {σ : q_S} (h : WFc σ) {c d : Nat} (hc : c < sN σ 0) (hd : d < sN σ 0) (hne : ¬ d = c) (hl : sLen σ d + sLen σ c ≤ sC σ d 4) : WFc (smerge σ c d) := by
  obtain ⟨k1, k2, k3, k4, k5, k6⟩ := smgs_keep d (sL σ c) σ
  have kP := smgs_P d (sL σ c) σ (h.nd c)
  obtain ⟨hB, h2, h3, h4, h5, h6, h7, h8⟩ := id h
  have hd8 : d < 8 := Nat.lt_of_lt_of_le hd hB.1
  have hc8 : c < 8 := Nat.lt_of_lt_of_le hc hB.1
  have eN : sN (smerge σ c d) = sN σ := k1
  have eR : sR (smerge σ c d) = sR σ := k3
  have eC : ∀ i j, sC (smerge σ c d) i j = if i = c ∧ j = 8 then d + 1 else if i = c ∧ j = 9 then 1 else if i = c ∧ j = 6 then 4 else sC σ i j := by
    intro i j
    show f2 (f2 (f2 (sC (smgs d (sL σ c) σ)) c 6 4) c 9 1) c 8 (d + 1) i j = _
    rw [k2]; rfl
  have eL : ∀ i, sL (smerge σ c d) i = if i = c then [] else if i = d then sL σ d ++ sL σ c else sL σ i := by
    intro i
    show f1 (sL (smgs d (sL σ c) σ)) c [] i = _
    rw [f1_or]
    by_cases e : i = c
    · rw [if_pos e, if_pos e]
    · rw [if_neg e, if_neg e]
      by_cases e2 : i = d
      · rw [if_pos e2, e2, k5]
      · rw [if_neg e2, k4 i e2]
  have eP : ∀ p j, sP (smerge σ c d) p j = if p ∈ sL σ c then (if j = 4 then d + 1 else if j = 6 then sP σ p 6 + 1 else if j = 5 then sP σ p 5 - (sP σ p 5 - sC σ d 5) else sP σ p j) else sP σ p j := by
    intro p j
    show sP (smgs d (sL σ c) σ) p j = _
    by_cases e : p ∈ sL σ c
    · rw [if_pos e, kP p e j]
    · rw [if_neg e, k6 p e]
  have hlen : ∀ i, (sL (smerge σ c d) i).length ≤ if i = d then sLen σ d + sLen σ c else sLen σ i := by
    intro i
    rw [eL]
    by_cases e : i = c
    · rw [if_pos e]; exact Nat.zero_le _
    · rw [if_neg e]
      by_cases e2 : i = d
      · rw [if_pos e2, if_pos e2, List.length_append]; exact Nat.le_refl _
      · rw [if_neg e2, if_neg e2]; exact Nat.le_refl _
  have hcd := h2 d hd8
  refine ⟨⟨by rw [eN]; exact hB.1, by rw [eN]; exact hB.2.1, by rw [eN]; exact hB.2.2.1, fun i => ?_⟩, fun i hi => ?_, fun i hi => ?_, fun i hi => ?_, fun p => ?_, fun p hp j => ?_, fun i => ⟨?_, fun p => ?_⟩, fun r hr => by rw [eR]; exact h8 r hr⟩
  · have := hlen i
    have h20 : sLen σ i ≤ 20 := hB.2.2.2 i
    have := hcd.2.2.2.2.1
    split at * <;> omega
  · obtain ⟨a1, a2, a3, a4, a5, a6, a7, a8, a9, a10, a11⟩ := h2 i hi
    have hli := hlen i
    refine ⟨?_, ?_, ?_, ?_, ?_, ?_, ?_, ?_, ?_, ?_, ?_⟩
    · rw [eC]; simpa using a1
    · rw [eC]; simpa using a2
    · rw [eC]; simpa using a3
    · rw [eC]; simpa using a4
    · rw [eC]; simpa using a5
    · rw [eC]; simpa using a6
    · rw [eC]; simp; split <;> omega
    · rw [eC]; simpa using a8
    · rw [eC]; simp; split <;> omega
    · rw [eC]; simp; split <;> omega
    · rw [eC]
      simp
      refine Nat.le_trans hli ?_
      split
      · next e => rw [e]; exact hl
      · exact a11
  · rw [eN] at hi
    obtain ⟨a1, a2, a3⟩ := h3 i hi
    refine ⟨by rw [eC, if_neg (by omega), if_neg (by omega), if_neg (fun z => by omega)]; exact a1, by rw [eC]; simpa using a2, ?_⟩
    rw [eL, if_neg (by omega), if_neg (by omega)]; exact a3
  · rw [eN] at hi
    rw [eC]; simp; split
    · omega
    · exact h4 i hi
  · obtain ⟨a1, a2, a3, a4, a5, a6, a7, a8, a9, a10⟩ := h5 p
    by_cases e : p ∈ sL σ c
    · have hp4 := h.mem.mp e
      refine ⟨?_, ?_, ?_, ?_, ?_, ?_, ?_, ?_, ?_, ?_⟩ <;> simp only [eP, eN, if_pos e] <;> simp <;> first | assumption | omega
    · refine ⟨?_, ?_, ?_, ?_, ?_, ?_, ?_, ?_, ?_, ?_⟩ <;> simp only [eP, eN, if_neg e] <;> assumption
  · rw [eN] at hp
    rw [eP, if_neg (fun e => by have := h.mlt e; omega)]
    exact h6 p hp j
  · rw [eL]
    by_cases e : i = c
    · rw [if_pos e]; exact List.nodup_nil
    · rw [if_neg e]
      by_cases e2 : i = d
      · rw [if_pos e2]
        refine List.nodup_append.mpr ⟨h.nd d, h.nd c, fun a ha b hb e3 => ?_⟩
        subst e3
        have := h.mem.mp ha
        have := h.mem.mp hb
        omega
      · rw [if_neg e2]; exact h.nd i
  · rw [eL, eP]
    by_cases e : i = c
    · rw [if_pos e]
      by_cases e3 : p ∈ sL σ c
      · rw [if_pos e3]; simp; omega
      · rw [if_neg e3]
        subst e
        have := h.mem (c := i) (p := p)
        simp
        intro z
        exact e3 (this.mpr z)
    · rw [if_neg e]
      by_cases e3 : p ∈ sL σ c
      · rw [if_pos e3]
        simp
        by_cases e2 : i = d
        · rw [if_pos e2]
          simp [e3, e2]
        · rw [if_neg e2]
          have := h.mem (c := i) (p := p)
          have hp4 := h.mem.mp e3
          rw [this]
          omega
      · rw [if_neg e3]
        by_cases e2 : i = d
        · rw [if_pos e2, List.mem_append, e2]
          have := h.mem (c := d) (p := p)
          rw [← this]
          simp [e3]
        · rw [if_neg e2]
          exact h.mem
/-- the cancelling, person by person -/
def scl (σ : q_S) (c : Nat) : Nat → q_S
  | 0 => σ
  | k + 1 => if sP (scl σ c k) k 4 = c + 1 then sout (scl σ c k) k else scl σ c k
theorem scl_spec {σ : q_S} (h : WFc σ) (c : Nat) : ∀ k, WFc (scl σ c k) ∧ sN (scl σ c k) = sN σ ∧ sC (scl σ c k) = sC σ ∧ sR (scl σ c k) = sR σ ∧ sG (scl σ c k) = f1 (sG σ) 3 (sG σ 3 + spd σ c k) ∧ (∀ i, ¬ i = c → sL (scl σ c k) i = sL σ i) ∧ sL (scl σ c k) c = (sL σ c).filter (fun p => decide (k ≤ p)) ∧ sP (scl σ c k) = fun p j => if p < k ∧ sP σ p 4 = c + 1 ∧ (j = 4 ∨ j = 5) then 0 else sP σ p j := by
  intro k
  induction k with
  | zero =>
    refine ⟨h, rfl, rfl, rfl, (f1_id rfl).symm, fun _ _ => rfl, ?_, ?_⟩
    · symm
      exact List.filter_eq_self.mpr (fun a _ => by simp)
    · funext p j
      rw [if_neg (by omega)]; rfl
  | succ k ih =>
    obtain ⟨h0, h1, h2, h3, h4, h5, h6, h7⟩ := ih
    have hk4 : sP (scl σ c k) k 4 = sP σ k 4 := by rw [h7]; exact if_neg (by omega)
    have hk5 : sP (scl σ c k) k 5 = sP σ k 5 := by rw [h7]; exact if_neg (by omega)
    by_cases e : sP σ k 4 = c + 1
    · have hsc : scl σ c (k + 1) = sout (scl σ c k) k := by rw [scl, if_pos (hk4.trans e)]
      have hne : ¬ sP (scl σ c k) k 4 = 0 := by rw [hk4]; omega
      have hc : sP (scl σ c k) k 4 - 1 = c := by rw [hk4]; omega
      have hso : sout (scl σ c k) k = (sN (scl σ c k), f1 (sG (scl σ c k)) 3 (sG (scl σ c k) 3 + sP (scl σ c k) k 5), sC (scl σ c k), f1 (sL (scl σ c k)) c ((sL (scl σ c k) c).filter (· != k)), f2 (f2 (sP (scl σ c k)) k 4 0) k 5 0, sR (scl σ c k)) := by
        rw [sout, if_neg hne, hc]
      rw [hsc]
      refine ⟨h0.out k, (sout_N _ _).trans h1, (sout_C _ _).trans h2, (sout_R _ _).trans h3, ?_, fun i hi => ?_, ?_, ?_⟩
      · rw [hso, sG_mk, h4, hk5]
        funext i
        by_cases i3 : i = 3
        · subst i3
          rw [f1_s, f1_s, f1_s, spd, if_pos e]; omega
        · rw [f1_n i3, f1_n i3, f1_n i3]
      · rw [hso, sL_mk, f1_n hi]; exact h5 i hi
      · rw [hso, sL_mk, f1_s, h6, List.filter_filter]
        refine List.filter_congr (fun a _ => ?_)
        by_cases q : a = k
        · subst q; simp
        · have : (k ≤ a) = (k + 1 ≤ a) := propext (by omega)
          simp [q, this]
      · rw [hso, sP_mk, h7]
        funext p j
        rw [f2_or, f2_or]
        by_cases q : p = k
        · subst q
          by_cases j5 : j = 5
          · rw [if_pos ⟨rfl, j5⟩, if_pos ⟨by omega, e, Or.inr j5⟩]
          · by_cases j4 : j = 4
            · rw [if_neg (fun z => j5 z.2), if_pos ⟨rfl, j4⟩, if_pos ⟨by omega, e, Or.inl j4⟩]
            · rw [if_neg (fun z => j5 z.2), if_neg (fun z => j4 z.2), if_neg (fun z => by omega), if_neg (fun z => by omega)]
        · rw [if_neg (fun z => q z.1), if_neg (fun z => q z.1)]
          by_cases z : p < k ∧ sP σ p 4 = c + 1 ∧ (j = 4 ∨ j = 5)
          · rw [if_pos z, if_pos ⟨by omega, z.2⟩]
          · rw [if_neg z, if_neg (fun y => z ⟨by omega, y.2⟩)]
    · have hsc : scl σ c (k + 1) = scl σ c k := by rw [scl, if_neg (fun z => e (hk4.symm.trans z))]
      rw [hsc]
      refine ⟨h0, h1, h2, h3, ?_, h5, ?_, ?_⟩
      · rw [h4, spd, if_neg e]; rfl
      · rw [h6]
        refine List.filter_congr (fun a ha => ?_)
        have : ¬ a = k := fun z => e (by rw [← z]; exact h.mem.mp ha)
        have : (k ≤ a) = (k + 1 ≤ a) := propext (by omega)
        simp [this]
      · rw [h7]
        funext p j
        by_cases z : p < k ∧ sP σ p 4 = c + 1 ∧ (j = 4 ∨ j = 5)
        · rw [if_pos z, if_pos ⟨by omega, z.2⟩]
        · rw [if_neg z, if_neg (fun y => ?_)]
          have : ¬ p = k := fun x => e (by rw [← x]; exact y.2.1)
          exact z ⟨by omega, y.2⟩
/-- the class's own end of a cancelling -/
theorem scl_scan {σ : q_S} (h : WFc σ) (c w : Nat) (hc : c < 8) : (sN (scl σ c 30), f1 (sG (scl σ c 30)) 7 (sG (scl σ c 30) 7 + 1), f2 (f2 (sC (scl σ c 30)) c 6 3) c 9 w, sL (scl σ c 30), sP (scl σ c 30), sR (scl σ c 30)) = scan σ c w := by
  obtain ⟨h0, h1, h2, h3, h4, h5, h6, h7⟩ := scl_spec h c 30
  have eL : sL (scl σ c 30) = f1 (sL σ) c [] := by
    funext i
    by_cases e : i = c
    · subst e
      rw [f1_s, h6]
      refine List.filter_eq_nil_iff.mpr (fun a ha => ?_)
      have := h.mlt30 ha
      simp
      omega
    · rw [f1_n e, h5 i e]
  have eP : sP (scl σ c 30) = fun p j => if sP σ p 4 = c + 1 ∧ (j = 4 ∨ j = 5) then 0 else sP σ p j := by
    rw [h7]
    funext p j
    by_cases z : sP σ p 4 = c + 1 ∧ (j = 4 ∨ j = 5)
    · rw [if_pos z, if_pos ⟨h.mlt30 (h.mem.mpr z.1), z⟩]
    · rw [if_neg z, if_neg (fun y => z y.2)]
  rw [h1, h2, h3, h4, eL, eP]
  rfl
theorem WFc.can {σ : q_S} (h : WFc σ) {c w : Nat} (hc : c < sN σ 0) (hw : w ≤ 3) : WFc (scan σ c w) := by
  have h8 : c < 8 := Nat.lt_of_lt_of_le hc h.B.1
  rw [← scl_scan h c w h8]
  obtain ⟨h0, h1, -⟩ := scl_spec h c 30
  generalize scl σ c 30 = τ at h0 h1 ⊢
  obtain ⟨gB, g2, g3, g4, g5, g6, g7, g8⟩ := id h0
  have eC : ∀ i j, (f2 (f2 (sC τ) c 6 3) c 9 w) i j = if i = c ∧ j = 9 then w else if i = c ∧ j = 6 then 3 else sC τ i j := fun i j => rfl
  refine ⟨gB, fun i hi => ?_, fun i hi => ?_, fun i hi => ?_, g5, g6, g7, g8⟩
  · obtain ⟨a1, a2, a3, a4, a5, a6, a7, a8, a9, a10, a11⟩ := g2 i hi
    refine ⟨?_, ?_, ?_, ?_, ?_, ?_, ?_, ?_, ?_, ?_, show (sL τ i).length ≤ f2 (f2 (sC τ) c 6 3) c 9 w i 4 from (by rw [eC, if_neg (by omega), if_neg (by omega)]; exact a11)⟩ <;> rw [sC_mk, eC] <;> simp <;> first | assumption | (split <;> omega)
  · obtain ⟨a1, a2, a3⟩ := g3 i hi
    have hi : sN τ 0 ≤ i := hi
    rw [h1] at hi
    refine ⟨?_, ?_, a3⟩
    · rw [sC_mk, eC, if_neg (by omega), if_neg (by omega)]; exact a1
    · rw [sC_mk, eC, if_neg (by omega), if_neg (by omega)]; exact a2
  · have := g4 i hi
    rw [sC_mk, eC]; simp; split <;> omega
end
section
/-! the class's season: choosing, merging, cancelling -/
theorem RC.st {b c s : Nat} {I : q_Mem} {σ : q_S} (h : RC b I σ) (hw : WFc σ) (hc : c < 8) (hs : s < 2 ^ 31 - 1) : I (b + 4 + 2 * c) 8 = nI s ↔ sC σ c 6 = s + 1 := by
  rw [show I (b + 4 + 2 * c) 8 = enc (sC σ c 6) from h.c hc (j := 6) (by omega)]
  exact enc_nI (by have := (hw.cr hc).2.2.2.2.2.2.1; omega) hs
theorem c_tooSmallS {b c : Nat} {I : q_Mem} {σ : q_S} (hk : q_kd b = 3) (h : RC b I σ) (hw : WFc σ) (hc : c < 8) : q_M kX0_isTooSmall [.ref (b + 4 + 2 * c)] I (fun v J => v = some (.int (if sC σ c 6 = 1 ∧ sLen σ c < sC σ c 3 then 1 else 0)) ∧ I = J) := by
  have hcr := hw.cr hc
  refine (c_tooSmall (kSC hk hc) (h.len hc) (h.c hc (j := 3) (by omega)) (Nat.lt_of_le_of_lt (hw.len _) (by omega)) (Nat.lt_of_le_of_lt hcr.2.2.2.1 (by omega))).mono ?_
  rintro v J ⟨rfl, rfl⟩
  have hst : I (b + 4 + 2 * c) 8 = 0 ↔ sC σ c 6 = 1 := h.st hw hc (s := 0) (by omega)
  refine ⟨?_, rfl⟩
  by_cases q : sC σ c 6 = 1 ∧ sLen σ c < sC σ c 3
  · rw [if_pos q, if_pos ⟨hst.mpr q.1, q.2⟩]
  · rw [if_neg q, if_neg (fun z => q ⟨hst.mp z.1, z.2⟩)]
theorem c_levelsS {b c d : Nat} {I : q_Mem} {σ : q_S} (hk : q_kd b = 3) (h : RC b I σ) (hw : WFc σ) (hc : c < 8) (hd : d < 8) : q_M kX0_levelsFrom [.ref (b + 4 + 2 * c), .ref (b + 4 + 2 * d)] I (fun v J => v = some (.int (nI (slv σ c d))) ∧ I = J) :=
  c_levels (kSC hk hc) (kSC hk hd) (h.c hc (j := 1) (by omega)) (h.c hd (j := 1) (by omega)) (by have := (hw.cr hc).2.1; omega) (by have := (hw.cr hd).2.1; omega)
theorem slv_lt {σ : q_S} (hw : WFc σ) {c d : Nat} (hc : c < 8) (hd : d < 8) : slv σ c d < 4 := by
  have := (hw.cr hc).2.1
  have := (hw.cr hd).2.1
  unfold slv
  split <;> omega
theorem c_canTakeS {b c d : Nat} {I : q_Mem} {σ : q_S} (hk : q_kd b = 3) (h : RC b I σ) (hw : WFc σ) (hc : c < 8) (hd : d < 8) : q_M kX0_canTake [.ref (b + 4 + 2 * c), .ref (b + 4 + 2 * d)] I (fun v J => v = some (.int (if sC σ c 6 = 1 ∧ ¬ c = d ∧ sC σ c 0 = sC σ d 0 ∧ slv σ c d ≤ 1 ∧ sLen σ c + sLen σ d ≤ sC σ c 4 then 1 else 0)) ∧ I = J) := by
  obtain ⟨x0, x1, x2, x3, x4, x5, x6, x7, x8, x9, x10⟩ := hw.cr hc
  obtain ⟨y0, y1, y2, y3, y4, y5, y6, y7, y8, y9, y10⟩ := hw.cr hd
  have hlc := hw.len c
  have hld := hw.len d
  refine (c_canTake (kSC hk hc) (kSC hk hd) (h.cn hc) (h.cn hd) (h.c hc (j := 0) (by omega)) (h.c hd (j := 0) (by omega)) (h.c hc (j := 1) (by omega)) (h.c hd (j := 1) (by omega)) (h.len hc) (h.len hd) (h.c hc (j := 4) (by omega)) (by omega) (by omega) (by omega) (by omega) (by omega) (by omega) (by omega) (by omega) (by omega)).mono ?_
  rintro v J ⟨rfl, rfl⟩
  have hst : I (b + 4 + 2 * c) 8 = 0 ↔ sC σ c 6 = 1 := h.st hw hc (s := 0) (by omega)
  refine ⟨?_, rfl⟩
  by_cases q : sC σ c 6 = 1 ∧ ¬ c = d ∧ sC σ c 0 = sC σ d 0 ∧ slv σ c d ≤ 1 ∧ sLen σ c + sLen σ d ≤ sC σ c 4
  · rw [if_pos q, if_pos ⟨hst.mpr q.1, q.2⟩]
  · rw [if_neg q, if_neg (fun z => q ⟨hst.mp z.1, z.2⟩)]
theorem c_smallest {b : Nat} {I : q_Mem} {σ : q_S} (hk : q_kd b = 3) (h : RC b I σ) (hw : WFc σ) : q_M kX3_smallestTooSmall [.ref b] I (fun v J => v = some (crf b (ssm σ 8)) ∧ I = J) := by
  have key : ∀ (d k : Nat) (o5 : Option Value), k + d = 8 → q_X kX3_smallestTooSmall 13 [some (.ref b), some (crf b (ssm σ k)), some (.ref (b + 1)), some (.int (nI 8)), some (.int (nI k)), o5] [] I (fun v J => v = some (crf b (ssm σ 8)) ∧ I = J) := by
    intro d
    induction d with
    | zero =>
      intro k o5 hd
      obtain rfl : k = 8 := by omega
      refine q_iload dX3_smallestTooSmall_13 rfl ?_
      refine q_iload_n dX3_smallestTooSmall_15 rfl ?_
      refine q_icmp_geN (tgt := 63) (by omega) (by omega) dX3_smallestTooSmall_16 (by decide) (fun h1 => ?_) (fun h1 => ?_)
      · by_cases e : ssm σ 8 = 0
        · rw [crf, if_pos e]
          refine q_aload_nN dX3_smallestTooSmall_63 rfl ?_
          exact q_aretN rfl dX3_smallestTooSmall_64 ⟨rfl, rfl⟩
        · rw [crf, if_neg e]
          refine q_aload_n dX3_smallestTooSmall_63 rfl ?_
          exact q_aret rfl dX3_smallestTooSmall_64 ⟨rfl, rfl⟩
      · omega
    | succ d ih =>
      intro k o5 hd
      have hk8 : k < 8 := by omega
      refine q_iload dX3_smallestTooSmall_13 rfl ?_
      refine q_iload_n dX3_smallestTooSmall_15 rfl ?_
      refine q_icmp_geN (tgt := 63) (by omega) (by omega) dX3_smallestTooSmall_16 (by decide) (fun h1 => ?_) (fun h1 => ?_)
      · omega
      refine q_aload_n dX3_smallestTooSmall_19 rfl ?_
      refine q_iload dX3_smallestTooSmall_20 rfl ?_
      refine q_aaldC hk rfl hk8 dX3_smallestTooSmall_22 ?_
      refine q_astore (ls' := [_, _, _, _, _, _]) dX3_smallestTooSmall_23 (Nat.le_of_ble_eq_true rfl) rfl ?_
      refine q_aload dX3_smallestTooSmall_25 rfl ?_
      refine q_ifnull dX3_smallestTooSmall_27 ?_
      refine q_aload dX3_smallestTooSmall_30 rfl ?_
      refine q_cV (as := []) lk_RX3_201 (c_tooSmallS hk h hw hk8) (Or.inl ⟨0, by decide, kSC hk hk8, rfl⟩) rfl (by decide) (Nat.le_of_ble_eq_true rfl) dX3_smallestTooSmall_32 ?_
      rintro v J ⟨rfl, rfl⟩
      by_cases e : sC σ k 6 = 1 ∧ sLen σ k < sC σ k 3
      · rw [if_pos e]
        refine q_if_eq (tgt := 57) dX3_smallestTooSmall_35 (by decide) (fun h2 => ?_) (fun h2 => ?_)
        · exact absurd h2 (by decide)
        have tail1 : ssm σ (k + 1) = k + 1 → ∀ o1, q_X kX3_smallestTooSmall 54 [some (.ref b), o1, some (.ref (b + 1)), some (.int (nI 8)), some (.int (nI k)), some (.ref (b + 4 + 2 * k))] [] I (fun v J => v = some (crf b (ssm σ 8)) ∧ I = J) := by
          intro hs o1
          refine q_aload dX3_smallestTooSmall_54 rfl ?_
          refine q_astore_n (ls' := [_, _, _, _, _, _]) dX3_smallestTooSmall_56 (Nat.le_of_ble_eq_true rfl) rfl ?_
          refine q_iinc (ls' := [_, _, _, _, _, _]) dX3_smallestTooSmall_57 rfl (nI_add _ 1) rfl ?_
          refine q_goto (tgt := 13) dX3_smallestTooSmall_60 (by decide) ?_
          have := ih (k + 1) (some (.ref (b + 4 + 2 * k))) (by omega)
          rw [hs] at this
          exact this
        by_cases f : ssm σ k = 0
        · have hs : ssm σ (k + 1) = k + 1 := by rw [ssm, if_pos ⟨e.1, e.2, Or.inl f⟩]
          rw [crf, if_pos f]
          refine q_aload_nN dX3_smallestTooSmall_38 rfl ?_
          refine q_ifnullN (tgt := 54) dX3_smallestTooSmall_39 (by decide) ?_
          exact tail1 hs _
        · have hl := ssm_le σ k
          have hm8 : ssm σ k - 1 < 8 := by omega
          have hkm := kSC hk hm8
          have hkk := kSC hk hk8
          rw [crf, if_neg f]
          refine q_aload_n dX3_smallestTooSmall_38 rfl ?_
          refine q_ifnull dX3_smallestTooSmall_39 ?_
          refine q_aload dX3_smallestTooSmall_42 rfl ?_
          refine q_getI fl_RX3_204 rfl hkk (h.len hk8) dX3_smallestTooSmall_44 ?_
          refine q_aload_n dX3_smallestTooSmall_47 rfl ?_
          refine q_getI fl_RX3_204 rfl hkm (h.len hm8) dX3_smallestTooSmall_48 ?_
          refine q_icmp_geN (tgt := 57) (by have := hw.len k; omega) (by have := hw.len (ssm σ k - 1); omega) dX3_smallestTooSmall_51 (by decide) (fun h3 => ?_) (fun h3 => ?_)
          · refine q_iinc (ls' := [_, _, _, _, _, _]) dX3_smallestTooSmall_57 rfl (nI_add _ 1) rfl ?_
            refine q_goto (tgt := 13) dX3_smallestTooSmall_60 (by decide) ?_
            have hs : ssm σ (k + 1) = ssm σ k := by rw [ssm, if_neg (fun z => z.2.2.elim f (fun y => by omega))]
            have := ih (k + 1) (some (.ref (b + 4 + 2 * k))) (by omega)
            rw [hs, crf, if_neg f] at this
            exact this
          · exact tail1 (by rw [ssm, if_pos ⟨e.1, e.2, Or.inr h3⟩]) _
      · rw [if_neg e]
        have hs : ssm σ (k + 1) = ssm σ k := by rw [ssm, if_neg (fun z => e ⟨z.1, z.2.1⟩)]
        refine q_if_eq (tgt := 57) dX3_smallestTooSmall_35 (by decide) (fun h2 => ?_) (fun h2 => ?_)
        · refine q_iinc (ls' := [_, _, _, _, _, _]) dX3_smallestTooSmall_57 rfl (nI_add _ 1) rfl ?_
          refine q_goto (tgt := 13) dX3_smallestTooSmall_60 (by decide) ?_
          have := ih (k + 1) (some (.ref (b + 4 + 2 * k))) (by omega)
          rw [hs] at this
          exact this
        · exact absurd rfl h2
  refine q_M.of pnX3_smallestTooSmall (by simp [Value.category]) (Nat.le_of_ble_eq_true rfl) ?_
  refine q_null dX3_smallestTooSmall_0 ?_
  refine q_astore_nN (ls' := [_, _, _, _, _, _]) dX3_smallestTooSmall_1 (Nat.le_of_ble_eq_true rfl) rfl ?_
  refine q_aload_n dX3_smallestTooSmall_2 rfl ?_
  refine q_getR fl_RX3_11 rfl (by assumption) dX3_smallestTooSmall_3 ?_
  refine q_astore_n (ls' := [_, _, _, _, _, _]) dX3_smallestTooSmall_6 (Nat.le_of_ble_eq_true rfl) rfl ?_
  refine q_aload_n dX3_smallestTooSmall_7 rfl ?_
  refine q_lenC hk rfl dX3_smallestTooSmall_8 ?_
  refine q_istore_n (ls' := [_, _, _, _, _, _]) dX3_smallestTooSmall_9 (Nat.le_of_ble_eq_true rfl) rfl ?_
  refine q_iconst (v := nI 0) dX3_smallestTooSmall_10 (by decide) ?_
  refine q_istore (ls' := [_, _, _, _, _, _]) dX3_smallestTooSmall_11 (Nat.le_of_ble_eq_true rfl) rfl ?_
  exact key 8 0 _ rfl
theorem c_greatest {b : Nat} {I : q_Mem} {σ : q_S} (hk : q_kd b = 3) (h : RC b I σ) (hw : WFc σ) : q_M kX3_greatestOpen [.ref b] I (fun v J => v = some (crf b (sgr σ 8)) ∧ I = J) := by
  have key : ∀ (d k : Nat) (o5 : Option Value), k + d = 8 → q_X kX3_greatestOpen 13 [some (.ref b), some (crf b (sgr σ k)), some (.ref (b + 1)), some (.int (nI 8)), some (.int (nI k)), o5] [] I (fun v J => v = some (crf b (sgr σ 8)) ∧ I = J) := by
    intro d
    induction d with
    | zero =>
      intro k o5 hd
      obtain rfl : k = 8 := by omega
      refine q_iload dX3_greatestOpen_13 rfl ?_
      refine q_iload_n dX3_greatestOpen_15 rfl ?_
      refine q_icmp_geN (tgt := 63) (by omega) (by omega) dX3_greatestOpen_16 (by decide) (fun h1 => ?_) (fun h1 => ?_)
      · by_cases e : sgr σ 8 = 0
        · rw [crf, if_pos e]
          refine q_aload_nN dX3_greatestOpen_63 rfl ?_
          exact q_aretN rfl dX3_greatestOpen_64 ⟨rfl, rfl⟩
        · rw [crf, if_neg e]
          refine q_aload_n dX3_greatestOpen_63 rfl ?_
          exact q_aret rfl dX3_greatestOpen_64 ⟨rfl, rfl⟩
      · omega
    | succ d ih =>
      intro k o5 hd
      have hk8 : k < 8 := by omega
      have hkk := kSC hk hk8
      have hst : I (b + 4 + 2 * k) 8 = 0 ↔ sC σ k 6 = 1 := h.st hw hk8 (s := 0) (by omega)
      refine q_iload dX3_greatestOpen_13 rfl ?_
      refine q_iload_n dX3_greatestOpen_15 rfl ?_
      refine q_icmp_geN (tgt := 63) (by omega) (by omega) dX3_greatestOpen_16 (by decide) (fun h1 => ?_) (fun h1 => ?_)
      · omega
      refine q_aload_n dX3_greatestOpen_19 rfl ?_
      refine q_iload dX3_greatestOpen_20 rfl ?_
      refine q_aaldC hk rfl hk8 dX3_greatestOpen_22 ?_
      refine q_astore (ls' := [_, _, _, _, _, _]) dX3_greatestOpen_23 (Nat.le_of_ble_eq_true rfl) rfl ?_
      refine q_aload dX3_greatestOpen_25 rfl ?_
      refine q_ifnull dX3_greatestOpen_27 ?_
      refine q_aload dX3_greatestOpen_30 rfl ?_
      refine q_getI fl_RX3_162 rfl (by assumption) rfl dX3_greatestOpen_32 ?_
      refine q_if_ne (tgt := 57) dX3_greatestOpen_35 (by decide) (fun h2 => ?_) (fun h2 => ?_)
      · have hs : sgr σ (k + 1) = sgr σ k := by rw [sgr, if_neg (fun z => h2 (hst.mpr z.1))]
        refine q_iinc (ls' := [_, _, _, _, _, _]) dX3_greatestOpen_57 rfl (nI_add _ 1) rfl ?_
        refine q_goto (tgt := 13) dX3_greatestOpen_60 (by decide) ?_
        have := ih (k + 1) (some (.ref (b + 4 + 2 * k))) (by omega)
        rw [hs] at this
        exact this
      · have e := hst.mp h2
        have tail1 : sgr σ (k + 1) = k + 1 → ∀ o1, q_X kX3_greatestOpen 54 [some (.ref b), o1, some (.ref (b + 1)), some (.int (nI 8)), some (.int (nI k)), some (.ref (b + 4 + 2 * k))] [] I (fun v J => v = some (crf b (sgr σ 8)) ∧ I = J) := by
          intro hs o1
          refine q_aload dX3_greatestOpen_54 rfl ?_
          refine q_astore_n (ls' := [_, _, _, _, _, _]) dX3_greatestOpen_56 (Nat.le_of_ble_eq_true rfl) rfl ?_
          refine q_iinc (ls' := [_, _, _, _, _, _]) dX3_greatestOpen_57 rfl (nI_add _ 1) rfl ?_
          refine q_goto (tgt := 13) dX3_greatestOpen_60 (by decide) ?_
          have := ih (k + 1) (some (.ref (b + 4 + 2 * k))) (by omega)
          rw [hs] at this
          exact this
        by_cases f : sgr σ k = 0
        · have hs : sgr σ (k + 1) = k + 1 := by rw [sgr, if_pos ⟨e, Or.inl f⟩]
          rw [crf, if_pos f]
          refine q_aload_nN dX3_greatestOpen_38 rfl ?_
          refine q_ifnullN (tgt := 54) dX3_greatestOpen_39 (by decide) ?_
          exact tail1 hs _
        · have hl := sgr_le σ k
          have hm8 : sgr σ k - 1 < 8 := by omega
          have hkm := kSC hk hm8
          rw [crf, if_neg f]
          refine q_aload_n dX3_greatestOpen_38 rfl ?_
          refine q_ifnull dX3_greatestOpen_39 ?_
          refine q_aload dX3_greatestOpen_42 rfl ?_
          refine q_getI fl_RX3_204 rfl hkk (h.len hk8) dX3_greatestOpen_44 ?_
          refine q_aload_n dX3_greatestOpen_47 rfl ?_
          refine q_getI fl_RX3_204 rfl hkm (h.len hm8) dX3_greatestOpen_48 ?_
          refine q_icmp_leN (tgt := 57) (by have := hw.len k; omega) (by have := hw.len (sgr σ k - 1); omega) dX3_greatestOpen_51 (by decide) (fun h3 => ?_) (fun h3 => ?_)
          · refine q_iinc (ls' := [_, _, _, _, _, _]) dX3_greatestOpen_57 rfl (nI_add _ 1) rfl ?_
            refine q_goto (tgt := 13) dX3_greatestOpen_60 (by decide) ?_
            have hs : sgr σ (k + 1) = sgr σ k := by rw [sgr, if_neg (fun z => z.2.elim f (fun y => by omega))]
            have := ih (k + 1) (some (.ref (b + 4 + 2 * k))) (by omega)
            rw [hs, crf, if_neg f] at this
            exact this
          · exact tail1 (by rw [sgr, if_pos ⟨e, Or.inr h3⟩]) _
  refine q_M.of pnX3_greatestOpen (by simp [Value.category]) (Nat.le_of_ble_eq_true rfl) ?_
  refine q_null dX3_greatestOpen_0 ?_
  refine q_astore_nN (ls' := [_, _, _, _, _, _]) dX3_greatestOpen_1 (Nat.le_of_ble_eq_true rfl) rfl ?_
  refine q_aload_n dX3_greatestOpen_2 rfl ?_
  refine q_getR fl_RX3_11 rfl (by assumption) dX3_greatestOpen_3 ?_
  refine q_astore_n (ls' := [_, _, _, _, _, _]) dX3_greatestOpen_6 (Nat.le_of_ble_eq_true rfl) rfl ?_
  refine q_aload_n dX3_greatestOpen_7 rfl ?_
  refine q_lenC hk rfl dX3_greatestOpen_8 ?_
  refine q_istore_n (ls' := [_, _, _, _, _, _]) dX3_greatestOpen_9 (Nat.le_of_ble_eq_true rfl) rfl ?_
  refine q_iconst (v := nI 0) dX3_greatestOpen_10 (by decide) ?_
  refine q_istore (ls' := [_, _, _, _, _, _]) dX3_greatestOpen_11 (Nat.le_of_ble_eq_true rfl) rfl ?_
  exact key 8 0 _ rfl
theorem c_betterMerging {b k m c : Nat} {I : q_Mem} {σ : q_S} (hk : q_kd b = 3) (h : RC b I σ) (hw : WFc σ) (hk8 : k < 8) (hm8 : m < 8) (hc8 : c < 8) : q_M kX3_isBetterMerging [.ref (b + 4 + 2 * k), .ref (b + 4 + 2 * m), .ref (b + 4 + 2 * c)] I (fun v J => v = some (.int (if slv σ k c < slv σ m c ∨ (slv σ k c = slv σ m c ∧ sLen σ m < sLen σ k) then 1 else 0)) ∧ I = J) := by
  have hkk := kSC hk hk8
  have hkm := kSC hk hm8
  have l1 := slv_lt hw hk8 hc8
  have l2 := slv_lt hw hm8 hc8
  have n1 := hw.len k
  have n2 := hw.len m
  refine q_M.of pnX3_isBetterMerging (by simp [Value.category]) (Nat.le_of_ble_eq_true rfl) ?_
  refine q_aload_n dX3_isBetterMerging_0 rfl ?_
  refine q_aload_n dX3_isBetterMerging_1 rfl ?_
  refine q_cV (as := [_]) lk_RX3_214 (c_levelsS hk h hw hm8 hc8) (Or.inl ⟨0, by decide, kSC hk hm8, rfl⟩) rfl (by decide) (Nat.le_of_ble_eq_true rfl) dX3_isBetterMerging_2 ?_
  rintro v J ⟨rfl, rfl⟩
  refine q_aload_n dX3_isBetterMerging_5 rfl ?_
  refine q_aload_n dX3_isBetterMerging_6 rfl ?_
  refine q_cV (as := [_]) lk_RX3_214 (c_levelsS hk h hw hk8 hc8) (Or.inl ⟨0, by decide, kSC hk hk8, rfl⟩) rfl (by decide) (Nat.le_of_ble_eq_true rfl) dX3_isBetterMerging_7 ?_
  rintro v J ⟨rfl, rfl⟩
  refine q_isub dX3_isBetterMerging_10 ?_
  refine q_istore_n (ls' := [_, _, _, _]) dX3_isBetterMerging_11 (Nat.le_of_ble_eq_true rfl) rfl ?_
  refine q_iload_n dX3_isBetterMerging_12 rfl ?_
  rcases Nat.lt_trichotomy (slv σ k c) (slv σ m c) with q | q | q
  · rw [pk_sub (Nat.le_of_lt q)]
    refine q_if_gtN (tgt := 31) (by omega) dX3_isBetterMerging_13 (by decide) (fun h1 => ?_) (fun h1 => ?_)
    · refine q_iconst (v := nI 1) dX3_isBetterMerging_31 (by decide) ?_
      refine q_goto (tgt := 36) dX3_isBetterMerging_32 (by decide) ?_
      exact q_iret rfl rfl dX3_isBetterMerging_36 ⟨by rw [if_pos (Or.inl q)]; rfl, rfl⟩
    · omega
  · rw [pk_sub (Nat.le_of_eq q)]
    refine q_if_gtN (tgt := 31) (by omega) dX3_isBetterMerging_13 (by decide) (fun h1 => ?_) (fun h1 => ?_)
    · omega
    refine q_iload_n dX3_isBetterMerging_16 rfl ?_
    refine q_if_neN (tgt := 35) (by omega) dX3_isBetterMerging_17 (by decide) (fun h2 => ?_) (fun h2 => ?_)
    · omega
    refine q_aload_n dX3_isBetterMerging_20 rfl ?_
    refine q_getI fl_RX3_204 rfl hkk (h.len hk8) dX3_isBetterMerging_21 ?_
    refine q_aload_n dX3_isBetterMerging_24 rfl ?_
    refine q_getI fl_RX3_204 rfl hkm (h.len hm8) dX3_isBetterMerging_25 ?_
    refine q_icmp_leN (tgt := 35) (by omega) (by omega) dX3_isBetterMerging_28 (by decide) (fun h3 => ?_) (fun h3 => ?_)
    · refine q_iconst (v := nI 0) dX3_isBetterMerging_35 (by decide) ?_
      exact q_iret rfl rfl dX3_isBetterMerging_36 ⟨by rw [if_neg (fun z => by omega)]; rfl, rfl⟩
    · refine q_iconst (v := nI 1) dX3_isBetterMerging_31 (by decide) ?_
      refine q_goto (tgt := 36) dX3_isBetterMerging_32 (by decide) ?_
      exact q_iret rfl rfl dX3_isBetterMerging_36 ⟨by rw [if_pos (Or.inr ⟨q, h3⟩)]; rfl, rfl⟩
  · have hneg : nI (slv σ m c) - nI (slv σ k c) < 0 := pk_sneg (by omega) q
    refine q_if_gt (tgt := 31) dX3_isBetterMerging_13 (by decide) (fun h1 => ?_) (fun h1 => ?_)
    · exact absurd hneg (Int32.not_lt.mpr (Int32.le_of_lt h1))
    refine q_iload_n dX3_isBetterMerging_16 rfl ?_
    refine q_if_ne (tgt := 35) dX3_isBetterMerging_17 (by decide) (fun h2 => ?_) (fun h2 => ?_)
    · refine q_iconst (v := nI 0) dX3_isBetterMerging_35 (by decide) ?_
      exact q_iret rfl rfl dX3_isBetterMerging_36 ⟨by rw [if_neg (fun z => by omega)]; rfl, rfl⟩
    · rw [h2] at hneg
      exact absurd hneg (by decide)
theorem c_merging {b c : Nat} {I : q_Mem} {σ : q_S} (hk : q_kd b = 3) (h : RC b I σ) (hw : WFc σ) (hc : c < 8) : q_M kX3_mergingOf [.ref b, .ref (b + 4 + 2 * c)] I (fun v J => v = some (crf b (sft σ c 8)) ∧ I = J) := by
  have hkc := kSC hk hc
  have key : ∀ (d k : Nat) (o6 : Option Value), k + d = 8 → q_X kX3_mergingOf 14 [some (.ref b), some (.ref (b + 4 + 2 * c)), some (crf b (sft σ c k)), some (.ref (b + 1)), some (.int (nI 8)), some (.int (nI k)), o6] [] I (fun v J => v = some (crf b (sft σ c 8)) ∧ I = J) := by
    intro d
    induction d with
    | zero =>
      intro k o5 hd
      obtain rfl : k = 8 := by omega
      refine q_iload dX3_mergingOf_14 rfl ?_
      refine q_iload dX3_mergingOf_16 rfl ?_
      refine q_icmp_geN (tgt := 71) (by omega) (by omega) dX3_mergingOf_18 (by decide) (fun h1 => ?_) (fun h1 => ?_)
      · by_cases e : sft σ c 8 = 0
        · rw [crf, if_pos e]
          refine q_aload_nN dX3_mergingOf_71 rfl ?_
          exact q_aretN rfl dX3_mergingOf_72 ⟨rfl, rfl⟩
        · rw [crf, if_neg e]
          refine q_aload_n dX3_mergingOf_71 rfl ?_
          exact q_aret rfl dX3_mergingOf_72 ⟨rfl, rfl⟩
      · omega
    | succ d ih =>
      intro k o5 hd
      have hk8 : k < 8 := by omega
      have hkk := kSC hk hk8
      have no : sft σ c (k + 1) = sft σ c k → q_X kX3_mergingOf 65 [some (.ref b), some (.ref (b + 4 + 2 * c)), some (crf b (sft σ c k)), some (.ref (b + 1)), some (.int (nI 8)), some (.int (nI k)), some (.ref (b + 4 + 2 * k))] [] I (fun v J => v = some (crf b (sft σ c 8)) ∧ I = J) := by
        intro hs
        refine q_iinc (ls' := [_, _, _, _, _, _, _]) dX3_mergingOf_65 rfl (nI_add _ 1) rfl ?_
        refine q_goto (tgt := 14) dX3_mergingOf_68 (by decide) ?_
        have := ih (k + 1) (some (.ref (b + 4 + 2 * k))) (by omega)
        rw [hs] at this
        exact this
      have yes : sft σ c (k + 1) = k + 1 → ∀ o2, q_X kX3_mergingOf 62 [some (.ref b), some (.ref (b + 4 + 2 * c)), o2, some (.ref (b + 1)), some (.int (nI 8)), some (.int (nI k)), some (.ref (b + 4 + 2 * k))] [] I (fun v J => v = some (crf b (sft σ c 8)) ∧ I = J) := by
        intro hs o2
        refine q_aload dX3_mergingOf_62 rfl ?_
        refine q_astore_n (ls' := [_, _, _, _, _, _, _]) dX3_mergingOf_64 (Nat.le_of_ble_eq_true rfl) rfl ?_
        refine q_iinc (ls' := [_, _, _, _, _, _, _]) dX3_mergingOf_65 rfl (nI_add _ 1) rfl ?_
        refine q_goto (tgt := 14) dX3_mergingOf_68 (by decide) ?_
        have := ih (k + 1) (some (.ref (b + 4 + 2 * k))) (by omega)
        rw [hs] at this
        exact this
      refine q_iload dX3_mergingOf_14 rfl ?_
      refine q_iload dX3_mergingOf_16 rfl ?_
      refine q_icmp_geN (tgt := 71) (by omega) (by omega) dX3_mergingOf_18 (by decide) (fun h1 => ?_) (fun h1 => ?_)
      · omega
      refine q_aload_n dX3_mergingOf_21 rfl ?_
      refine q_iload dX3_mergingOf_22 rfl ?_
      refine q_aaldC hk rfl hk8 dX3_mergingOf_24 ?_
      refine q_astore (ls' := [_, _, _, _, _, _, _]) dX3_mergingOf_25 (Nat.le_of_ble_eq_true rfl) rfl ?_
      refine q_aload dX3_mergingOf_27 rfl ?_
      refine q_ifnull dX3_mergingOf_29 ?_
      refine q_aload_n dX3_mergingOf_32 rfl ?_
      refine q_getI fl_RX3_204 rfl hkc (h.len hc) dX3_mergingOf_33 ?_
      refine q_if_leN (tgt := 65) (by have := hw.len c; omega) dX3_mergingOf_36 (by decide) (fun h2 => ?_) (fun h2 => ?_)
      · exact no (by rw [sft, if_neg (fun z => by omega)])
      refine q_aload dX3_mergingOf_39 rfl ?_
      refine q_aload_n dX3_mergingOf_41 rfl ?_
      refine q_cV (as := [_]) lk_RX3_207 (c_canTakeS hk h hw hk8 hc) (Or.inl ⟨0, by decide, kSC hk hk8, rfl⟩) rfl (by decide) (Nat.le_of_ble_eq_true rfl) dX3_mergingOf_42 ?_
      rintro v J ⟨rfl, rfl⟩
      by_cases e : sC σ k 6 = 1 ∧ ¬ k = c ∧ sC σ k 0 = sC σ c 0 ∧ slv σ k c ≤ 1 ∧ sLen σ k + sLen σ c ≤ sC σ k 4
      · rw [if_pos e]
        refine q_if_eq (tgt := 65) dX3_mergingOf_45 (by decide) (fun h3 => ?_) (fun h3 => ?_)
        · exact absurd h3 (by decide)
        by_cases f : sft σ c k = 0
        · have hs : sft σ c (k + 1) = k + 1 := by rw [sft, if_pos ⟨h2, e, Or.inl f⟩]
          rw [crf, if_pos f]
          refine q_aload_nN dX3_mergingOf_48 rfl ?_
          refine q_ifnullN (tgt := 62) dX3_mergingOf_49 (by decide) ?_
          exact yes hs _
        · have hl := sft_le σ c k
          have hm8 : sft σ c k - 1 < 8 := by omega
          rw [crf, if_neg f] at no ⊢
          refine q_aload_n dX3_mergingOf_48 rfl ?_
          refine q_ifnull dX3_mergingOf_49 ?_
          refine q_aload dX3_mergingOf_52 rfl ?_
          refine q_aload_n dX3_mergingOf_54 rfl ?_
          refine q_aload_n dX3_mergingOf_55 rfl ?_
          refine q_cS (as := [_, _, _]) lk_RX3_210 (c_betterMerging hk h hw hk8 hm8 hc) rfl (by decide) (Nat.le_of_ble_eq_true rfl) dX3_mergingOf_56 ?_
          rintro v J ⟨rfl, rfl⟩
          by_cases g : slv σ k c < slv σ (sft σ c k - 1) c ∨ (slv σ k c = slv σ (sft σ c k - 1) c ∧ sLen σ (sft σ c k - 1) < sLen σ k)
          · rw [if_pos g]
            refine q_if_eq (tgt := 65) dX3_mergingOf_59 (by decide) (fun h4 => ?_) (fun h4 => ?_)
            · exact absurd h4 (by decide)
            exact yes (by rw [sft, if_pos ⟨h2, e, Or.inr g⟩]) _
          · rw [if_neg g]
            refine q_if_eq (tgt := 65) dX3_mergingOf_59 (by decide) (fun h4 => ?_) (fun h4 => ?_)
            · exact no (by rw [sft, if_neg (fun z => z.2.2.elim f g)])
            · exact absurd rfl h4
      · rw [if_neg e]
        refine q_if_eq (tgt := 65) dX3_mergingOf_45 (by decide) (fun h3 => ?_) (fun h3 => ?_)
        · exact no (by rw [sft, if_neg (fun z => e z.2.1)])
        · exact absurd rfl h3
  refine q_M.of pnX3_mergingOf (by simp [Value.category]) (Nat.le_of_ble_eq_true rfl) ?_
  refine q_null dX3_mergingOf_0 ?_
  refine q_astore_nN (ls' := [_, _, _, _, _, _, _]) dX3_mergingOf_1 (Nat.le_of_ble_eq_true rfl) rfl ?_
  refine q_aload_n dX3_mergingOf_2 rfl ?_
  refine q_getR fl_RX3_11 rfl (by assumption) dX3_mergingOf_3 ?_
  refine q_astore_n (ls' := [_, _, _, _, _, _, _]) dX3_mergingOf_6 (Nat.le_of_ble_eq_true rfl) rfl ?_
  refine q_aload_n dX3_mergingOf_7 rfl ?_
  refine q_lenC hk rfl dX3_mergingOf_8 ?_
  refine q_istore (ls' := [_, _, _, _, _, _, _]) dX3_mergingOf_9 (Nat.le_of_ble_eq_true rfl) rfl ?_
  refine q_iconst (v := nI 0) dX3_mergingOf_11 (by decide) ?_
  refine q_istore (ls' := [_, _, _, _, _, _, _]) dX3_mergingOf_12 (Nat.le_of_ble_eq_true rfl) rfl ?_
  exact key 8 0 _ rfl
end
section
/-! rooms -/
/-- a room given on an evening, to one of the first k -/
def sgb (σ : q_S) (r e : Nat) : Nat → Bool
  | 0 => false
  | k + 1 => sgb σ r e k || (decide (sC σ k 7 = r + 1) && decide (sC σ k 2 = e))
/-- the room for c, of the first k: its number + 1, or 0 -/
def srm (σ : q_S) (c : Nat) : Nat → Nat
  | 0 => 0
  | k + 1 => if sLen σ c ≤ sR σ k ∧ sgb σ k (sC σ c 2) 8 = false ∧ (srm σ c k = 0 ∨ sR σ k < sR σ (srm σ c k - 1)) then k + 1 else srm σ c k
theorem srm_le (σ : q_S) (c : Nat) : ∀ k, srm σ c k ≤ k := by
  intro k
  induction k with
  | zero => exact Nat.le_refl _
  | succ k ih => rw [srm]; split <;> omega
def sgiv (σ : q_S) (c r : Nat) : q_S := (sN σ, sG σ, f2 (f2 (sC σ) c 7 r) c 6 2, sL σ, sP σ, sR σ)
def scl2 (σ : q_S) (c : Nat) : q_S := if srm σ c (sN σ 1) = 0 then scan σ c 3 else sgiv σ c (srm σ c (sN σ 1))
def scls2 : Nat → q_S → q_S
  | 0, σ => σ
  | n + 1, σ => if sgr σ 8 = 0 then σ else scls2 n (scl2 σ (sgr σ 8 - 1))
/-- the whole closing -/
def sclose (σ : q_S) : q_S := uG (scls2 8 (scls1 8 σ)) 1 1
/-- a set as bits, of the first k -/
def sbits (P : Nat → Bool) : Nat → Nat
  | 0 => 0
  | k + 1 => sbits P k + (if P k then 2 ^ k else 0)
theorem sbits_lt (P : Nat → Bool) : ∀ k, sbits P k < 2 ^ k := by
  intro k
  induction k with
  | zero => exact Nat.one_pos
  | succ k ih => rw [sbits, Nat.pow_succ]; split <;> omega
theorem bit_or : ∀ k, k < 8 → ∀ s, s < 2 ^ k → nI s ||| (nI 1 <<< (nI k &&& 31)) = nI (s + 2 ^ k) := by decide +kernel
/-- how many of the first k -/
def scnt (P : Nat → Bool) : Nat → Nat
  | 0 => 0
  | k + 1 => scnt P k + (if P k then 1 else 0)
theorem WFc.giv {σ : q_S} (h : WFc σ) {c r : Nat} (hc : c < sN σ 0) (hr : r ≤ 5) : WFc (sgiv σ c r) := by
  obtain ⟨gB, g2, g3, g4, g5, g6, g7, g8⟩ := id h
  have eC : ∀ i j, (f2 (f2 (sC σ) c 7 r) c 6 2) i j = if i = c ∧ j = 6 then 2 else if i = c ∧ j = 7 then r else sC σ i j := fun i j => rfl
  refine ⟨gB, fun i hi => ?_, fun i hi => ?_, fun i hi => ?_, g5, g6, g7, g8⟩
  · obtain ⟨a1, a2, a3, a4, a5, a6, a7, a8, a9, a10, a11⟩ := g2 i hi
    refine ⟨?_, ?_, ?_, ?_, ?_, ?_, ?_, ?_, ?_, ?_, show (sL σ i).length ≤ f2 (f2 (sC σ) c 7 r) c 6 2 i 4 from (by rw [eC, if_neg (by omega), if_neg (by omega)]; exact a11)⟩ <;> rw [sgiv, sC_mk, eC] <;> simp <;> first | assumption | (split <;> omega)
  · obtain ⟨a1, a2, a3⟩ := g3 i hi
    have hi : sN σ 0 ≤ i := hi
    refine ⟨?_, ?_, a3⟩
    · rw [sgiv, sC_mk, eC, if_neg (by omega), if_neg (by omega)]; exact a1
    · rw [sgiv, sC_mk, eC, if_neg (by omega), if_neg (by omega)]; exact a2
  · have := g4 i hi
    rw [sgiv, sC_mk, eC]; simp; split <;> omega
theorem c_lt_of_st {σ : q_S} (h : WFc σ) {c : Nat} (hs : sC σ c 6 = 1) : c < sN σ 0 := by
  rcases Nat.lt_or_ge c (sN σ 0) with q | q
  · exact q
  · have := (h.2.2.1 c q).1; omega
theorem WFc.cl1 {σ : q_S} (h : WFc σ) {c : Nat} (hs : sC σ c 6 = 1) : WFc (scl1 σ c) := by
  have hc := c_lt_of_st h hs
  unfold scl1
  apply WFc.set
  split
  · exact h.can hc (by omega)
  · next e =>
    obtain ⟨h1, h2, h3⟩ := sft_spec σ c 8 e
    exact h.merge hc (c_lt_of_st h h1) h2 h3
theorem WFc.cls1 {σ : q_S} (n : Nat) (h : WFc σ) : WFc (scls1 n σ) := by
  induction n generalizing σ with
  | zero => exact h
  | succ n ih =>
    unfold scls1
    split
    · exact h
    · next e => exact ih (h.cl1 (ssm_spec σ 8 e).1)
theorem WFc.cl2 {σ : q_S} (h : WFc σ) {c : Nat} (hs : sC σ c 6 = 1) : WFc (scl2 σ c) := by
  have hc := c_lt_of_st h hs
  unfold scl2
  split
  · exact h.can hc (by omega)
  · exact h.giv hc (Nat.le_trans (srm_le _ _ _) h.B.2.1)
theorem WFc.cls2 {σ : q_S} (n : Nat) (h : WFc σ) : WFc (scls2 n σ) := by
  induction n generalizing σ with
  | zero => exact h
  | succ n ih =>
    unfold scls2
    split
    · exact h
    · next e => exact ih (h.cl2 (sgr_spec σ 8 e))
theorem WFc.G {σ : q_S} (h : WFc σ) (j v : Nat) : WFc (uG σ j v) := h
theorem WFc.close {σ : q_S} (h : WFc σ) : WFc (sclose σ) := ((h.cls1 8).cls2 8).G 1 1
/-! max(0, a - b) -/
theorem max_sub {a b : Nat} (ha : a < 2 ^ 30) (hb : b < 2 ^ 30) : (if nI 0 < nI a - nI b then nI a - nI b else nI 0) = nI (a - b) := by
  rcases Nat.lt_or_ge a b with q | q
  · have hneg := pk_sneg (by omega) q
    rw [if_neg, Nat.sub_eq_zero_of_le (Nat.le_of_lt q)]
    exact Int32.not_lt.mpr (Int32.le_of_lt hneg)
  · rw [pk_sub q]
    by_cases e : a - b = 0
    · rw [e]; rfl
    · rw [if_pos ((nI_ltI (by omega) (by omega)).mpr (by omega))]
end
section
/-! the class's season: merging, cancelling, rooms, the closing -/
theorem c_merge {b c d : Nat} {I : q_Mem} {σ : q_S} (hk : q_kd b = 3) (h : RC b I σ) (hw : WFc σ) (hc : c < 8) (hd : d < 8) (hne : ¬ d = c) (hl : sLen σ d + sLen σ c ≤ 20) : q_M kX3_merge [.ref b, .ref (b + 4 + 2 * c), .ref (b + 4 + 2 * d)] I (fun v J => v = none ∧ RC b J (smerge σ c d) ∧ FC b I J) := by
  have hkc := kSC hk hc
  have hkd := kSC hk hd
  have hlc := hw.len c
  have hsl : (sL σ c).length = sLen σ c := rfl
  have hsd : (sL σ d).length = sLen σ d := rfl
  have key : ∀ (m r : Nat) (J : q_Mem) (o4 o5 : Option Value), r + m = sLen σ c → RC b J (smgs d ((sL σ c).take r) σ) → FC b I J → q_X kX3_merge 2 [some (.ref b), some (.ref (b + 4 + 2 * c)), some (.ref (b + 4 + 2 * d)), some (.int (nI r)), o4, o5] [] J (fun v J => v = none ∧ RC b J (smerge σ c d) ∧ FC b I J) := by
    intro m
    induction m with
    | zero =>
      intro r J o4 o5 hm h hF
      obtain rfl : r = sLen σ c := by omega
      rw [List.take_length] at h
      obtain ⟨k1, k2, k3, k4, k5, k6⟩ := smgs_keep d (sL σ c) σ
      have hz : J (b + 4 + 2 * c) 12 = nI (sLen σ c) := by rw [h.len hc, sLen, k4 c (fun e => hne e.symm)]
      refine q_iload_n dX3_merge_2 rfl ?_
      refine q_aload_n dX3_merge_3 rfl ?_
      refine q_getI fl_RX3_204 rfl hkc hz dX3_merge_4 ?_
      refine q_icmp_geN (tgt := 100) (by omega) (by omega) dX3_merge_7 (by decide) (fun h1 => ?_) (fun h1 => ?_)
      · rw [smerge]
        generalize smgs d (sL σ c) σ = τ at h ⊢
        refine q_aload_n dX3_merge_100 rfl ?_
        refine q_iconst (v := nI 0) dX3_merge_101 (by decide) ?_
        refine q_putI ⟨fl_RX3_204, rfl, rfl⟩ hkc ⟨rfl, rfl⟩ dX3_merge_102 ?_
        have h : RC b (q_up J (b + 4 + 2 * c) 12 (nI 0)) (uL τ c []) := h.L hc q_up_s (fun r v hr => by cases hr) (fun i j q1 q2 => q_up_n q2)
        have hF := hF.up (a := b + 4 + 2 * c) (j := 12) (x := nI 0) (by omega) (by omega)
        generalize q_up J (b + 4 + 2 * c) 12 (nI 0) = J1 at h hF ⊢
        refine q_aload_n dX3_merge_105 rfl ?_
        refine q_iconst (v := nI 3) dX3_merge_106 (by decide) ?_
        refine q_putI ⟨fl_RX3_162, rfl, rfl⟩ hkc ⟨rfl, rfl⟩ dX3_merge_107 ?_
        have h : RC b (q_up J1 (b + 4 + 2 * c) 8 (nI 3)) (uC (uL τ c []) c 6 4) := h.C (j := 6) hc (by omega) rfl
        have hF := hF.up (a := b + 4 + 2 * c) (j := 8) (x := nI 3) (by omega) (by omega)
        generalize q_up J1 (b + 4 + 2 * c) 8 (nI 3) = J2 at h hF ⊢
        refine q_aload_n dX3_merge_110 rfl ?_
        refine q_iconst (v := nI 1) dX3_merge_111 (by decide) ?_
        refine q_putI ⟨fl_RX3_224, rfl, rfl⟩ hkc ⟨rfl, rfl⟩ dX3_merge_112 ?_
        have h : RC b (q_up J2 (b + 4 + 2 * c) 9 (nI 1)) (uC (uC (uL τ c []) c 6 4) c 9 1) := h.C (j := 9) hc (by omega) rfl
        have hF := hF.up (a := b + 4 + 2 * c) (j := 9) (x := nI 1) (by omega) (by omega)
        generalize q_up J2 (b + 4 + 2 * c) 9 (nI 1) = J3 at h hF ⊢
        refine q_aload_n dX3_merge_115 rfl ?_
        refine q_aload_n dX3_merge_116 rfl ?_
        refine q_getI fl_RX3_96 rfl hkd (h.cn hd) dX3_merge_117 ?_
        refine q_putI ⟨fl_RX3_227, rfl, rfl⟩ hkc ⟨rfl, rfl⟩ dX3_merge_120 ?_
        have h : RC b (q_up J3 (b + 4 + 2 * c) 10 (nI d)) (uC (uC (uC (uL τ c []) c 6 4) c 9 1) c 8 (d + 1)) := h.C (j := 8) hc (by omega) rfl
        have hF := hF.up (a := b + 4 + 2 * c) (j := 10) (x := nI d) (by omega) (by omega)
        generalize q_up J3 (b + 4 + 2 * c) 10 (nI d) = J4 at h hF ⊢
        refine q_aload_n dX3_merge_123 rfl ?_
        refine q_dup dX3_merge_124 rfl ?_
        refine q_getI fl_RX3_79 rfl (by assumption) (h.g (j := 6) (by omega)) dX3_merge_125 ?_
        refine q_iconst (v := nI 1) dX3_merge_128 (by decide) ?_
        refine q_iadd dX3_merge_129 ?_
        rw [sG_mk, nI_add]
        refine q_putI ⟨fl_RX3_79, rfl, rfl⟩ (by assumption) ⟨rfl, rfl⟩ dX3_merge_130 ?_
        have h : RC b (q_up J4 b 12 (nI (sG τ 6 + 1))) (uG (uC (uC (uC (uL τ c []) c 6 4) c 9 1) c 8 (d + 1)) 6 (sG τ 6 + 1)) := h.G (j := 6) (by omega) rfl
        have hF := hF.up (a := b) (j := 12) (x := nI (sG τ 6 + 1)) (by omega) (by omega)
        exact q_vret rfl dX3_merge_133 ⟨rfl, h, hF⟩
      · omega
    | succ m ih =>
      intro r J o4 o5 hm h hF
      have hrc : r < (sL σ c).length := by omega
      obtain ⟨p, hp⟩ : ∃ p, (sL σ c)[r]? = some p := ⟨_, List.getElem?_eq_getElem hrc⟩
      have hpm : p ∈ sL σ c := List.mem_of_getElem? hp
      have hp2 := hw.mlt hpm
      have hp30 := hw.mlt30 hpm
      have hpt : p ∉ (sL σ c).take r := by
        intro q
        obtain ⟨i, hi⟩ := List.getElem?_of_mem q
        rw [List.getElem?_take] at hi
        have hir : i < r := by
          rcases Nat.lt_or_ge i r with z | z
          · exact z
          · rw [if_neg (by omega)] at hi; cases hi
        rw [if_pos hir] at hi
        have := (List.getElem?_inj (j := r) (by omega) (hw.nd c)).mp (hi.trans hp.symm)
        omega
      have htk : (sL σ c).take (r + 1) = (sL σ c).take r ++ [p] := by rw [List.take_add_one, hp]; rfl
      obtain ⟨k1, k2, k3, k4, k5, k6⟩ := smgs_keep d ((sL σ c).take r) σ
      have hsm := smgs_snoc d p ((sL σ c).take r) σ
      rw [← htk] at hsm
      have hld : sLen (smgs d ((sL σ c).take r) σ) d < 20 := by
        rw [sLen, k5, List.length_append, List.length_take]; omega
      have hp5 : sP (smgs d ((sL σ c).take r) σ) p 5 ≤ 99 := by rw [k6 p hpt]; exact (hw.pr p).2.2.2.2.2.1
      have hd5 : sC (smgs d ((sL σ c).take r) σ) d 5 ≤ 99 := by rw [k2]; exact (hw.cr hd).2.2.2.2.2.1
      have hBt : sN (smgs d ((sL σ c).take r) σ) = sN σ := k1
      have hLc : sL (smgs d ((sL σ c).take r) σ) c = sL σ c := k4 c (fun e => hne e.symm)
      generalize smgs d ((sL σ c).take r) σ = τ at h hsm hld hp5 hd5 hBt hLc
      have hz : J (b + 4 + 2 * c) 12 = nI (sLen σ c) := by rw [h.len hc, sLen, hLc]
      have hkp := kSP hk hp30
      refine q_iload_n dX3_merge_2 rfl ?_
      refine q_aload_n dX3_merge_3 rfl ?_
      refine q_getI fl_RX3_204 rfl hkc hz dX3_merge_4 ?_
      refine q_icmp_geN (tgt := 100) (by omega) (by omega) dX3_merge_7 (by decide) (fun h1 => ?_) (fun h1 => ?_)
      · omega
      refine q_aload_n dX3_merge_10 rfl ?_
      refine q_aload_n dX3_merge_11 rfl ?_
      refine q_iload_n dX3_merge_12 rfl ?_
      refine q_cV (as := [_]) lk_RX3_218 (c_memberAt hkc hz (r := nI r) hlc) (Or.inl ⟨0, by decide, hkc, rfl⟩) rfl (by decide) (Nat.le_of_ble_eq_true rfl) dX3_merge_13 ?_
      rintro v J' (⟨i, hi, he, rfl, rfl⟩ | ⟨hno, -, -⟩)
      case inr => exact absurd rfl (hno r hrc)
      obtain rfl : r = i := (nI_eq (by omega) (by omega)).mp he
      have hmr : J (b + 4 + 2 * c + 1) r = nI p := by
        rw [show b + 4 + 2 * c + 1 = b + 5 + 2 * c by omega]
        exact h.m hc (by rw [hLc]; exact hp)
      rw [hmr]
      refine q_cV (as := [_]) lk_RX3_111 (c_personAtN hk h (p := p) (by rw [hBt]; exact hw.B.2.2.1) (by rw [hBt]; exact hp2)) (Or.inl ⟨3, by decide, by assumption, rfl⟩) rfl (by decide) (Nat.le_of_ble_eq_true rfl) dX3_merge_16 ?_
      rintro v J' ⟨rfl, rfl⟩
      refine q_astore (ls' := [_, _, _, _, _, _]) dX3_merge_19 (Nat.le_of_ble_eq_true rfl) rfl ?_
      refine q_aload dX3_merge_21 rfl ?_
      refine q_ifnull dX3_merge_23 ?_
      refine q_aload_n dX3_merge_26 rfl ?_
      refine q_aload dX3_merge_27 rfl ?_
      refine q_getI fl_RX3_110 rfl hkp (h.pn hp30) dX3_merge_29 ?_
      refine q_cV (as := [_]) lk_RX3_189 (c_addS hk h hd hld) (Or.inl ⟨0, by decide, hkd, rfl⟩) rfl (by decide) (Nat.le_of_ble_eq_true rfl) dX3_merge_32 ?_
      rintro v J1 ⟨rfl, h, hF1⟩
      have hF := hF.tr hF1
      refine q_aload dX3_merge_35 rfl ?_
      refine q_aload_n dX3_merge_37 rfl ?_
      refine q_getI fl_RX3_96 rfl hkd (h.cn hd) dX3_merge_38 ?_
      refine q_putI ⟨fl_RX3_182, rfl, rfl⟩ hkp ⟨rfl, rfl⟩ dX3_merge_41 ?_
      have h : RC b (q_up J1 (b + 20 + p) 2 (nI d)) (uP (uL τ d (sL τ d ++ [p])) p 4 (d + 1)) := h.P (j := 4) hp30 (by omega) rfl
      have hF := hF.up (a := b + 20 + p) (j := 2) (x := nI d) (by omega) (by omega)
      generalize q_up J1 (b + 20 + p) 2 (nI d) = J2 at h hF ⊢
      refine q_aload dX3_merge_44 rfl ?_
      refine q_dup dX3_merge_46 rfl ?_
      refine q_getI fl_RX3_195 rfl hkp (h.p hp30 (j := 6) (by omega)) dX3_merge_47 ?_
      refine q_iconst (v := nI 1) dX3_merge_50 (by decide) ?_
      refine q_iadd dX3_merge_51 ?_
      rw [show penc 6 (sP (uP (uL τ d (sL τ d ++ [p])) p 4 (d + 1)) p 6) = nI (sP τ p 6) by rw [sP_mk, f2_n (by omega)]; rfl, nI_add]
      refine q_putI ⟨fl_RX3_195, rfl, rfl⟩ hkp ⟨rfl, rfl⟩ dX3_merge_52 ?_
      have h : RC b (q_up J2 (b + 20 + p) 4 (nI (sP τ p 6 + 1))) (uP (uP (uL τ d (sL τ d ++ [p])) p 4 (d + 1)) p 6 (sP τ p 6 + 1)) := h.P (j := 6) hp30 (by omega) rfl
      have hF := hF.up (a := b + 20 + p) (j := 4) (x := nI (sP τ p 6 + 1)) (by omega) (by omega)
      generalize q_up J2 (b + 20 + p) 4 (nI (sP τ p 6 + 1)) = J3 at h hF ⊢
      have e5 : J3 (b + 20 + p) 3 = nI (sP τ p 5) := by
        refine (h.p hp30 (j := 5) (by omega)).trans ?_
        rw [sP_mk, f2_n (by omega), sP_mk, f2_n (by omega)]; rfl
      refine q_iconst (v := nI 0) dX3_merge_55 (by decide) ?_
      refine q_aload dX3_merge_56 rfl ?_
      refine q_getI fl_RX3_119 rfl hkp e5 dX3_merge_58 ?_
      refine q_aload_n dX3_merge_61 rfl ?_
      refine q_getI fl_RX3_192 rfl hkd (h.c hd (j := 5) (by omega)) dX3_merge_62 ?_
      refine q_isub dX3_merge_65 ?_
      refine q_mmax lk_RX3_221 (by decide) (Nat.le_of_ble_eq_true rfl) dX3_merge_66 ?_
      rw [show cenc 5 (sC (uP (uP (uL τ d (sL τ d ++ [p])) p 4 (d + 1)) p 6 (sP τ p 6 + 1)) d 5) = nI (sC τ d 5) from rfl, max_sub (by omega) (by omega)]
      refine q_istore (ls' := [_, _, _, _, _, _]) dX3_merge_69 (Nat.le_of_ble_eq_true rfl) rfl ?_
      refine q_aload dX3_merge_71 rfl ?_
      refine q_dup dX3_merge_73 rfl ?_
      refine q_getI fl_RX3_119 rfl hkp e5 dX3_merge_74 ?_
      refine q_iload dX3_merge_77 rfl ?_
      refine q_isub dX3_merge_79 ?_
      rw [pk_sub (Nat.sub_le _ _)]
      refine q_putI ⟨fl_RX3_119, rfl, rfl⟩ hkp ⟨rfl, rfl⟩ dX3_merge_80 ?_
      have h : RC b (q_up J3 (b + 20 + p) 3 (nI (sP τ p 5 - (sP τ p 5 - sC τ d 5)))) (uP (uP (uP (uL τ d (sL τ d ++ [p])) p 4 (d + 1)) p 6 (sP τ p 6 + 1)) p 5 (sP τ p 5 - (sP τ p 5 - sC τ d 5))) := h.P (j := 5) hp30 (by omega) rfl
      have hF := hF.up (a := b + 20 + p) (j := 3) (x := nI (sP τ p 5 - (sP τ p 5 - sC τ d 5))) (by omega) (by omega)
      generalize q_up J3 (b + 20 + p) 3 (nI (sP τ p 5 - (sP τ p 5 - sC τ d 5))) = J4 at h hF ⊢
      refine q_aload_n dX3_merge_83 rfl ?_
      refine q_dup dX3_merge_84 rfl ?_
      refine q_getI fl_RX3_70 rfl (by assumption) (h.g (j := 3) (by omega)) dX3_merge_85 ?_
      refine q_iload dX3_merge_88 rfl ?_
      refine q_iadd dX3_merge_90 ?_
      rw [sG_mk, nI_add]
      refine q_putI ⟨fl_RX3_70, rfl, rfl⟩ (by assumption) ⟨rfl, rfl⟩ dX3_merge_91 ?_
      have h : RC b (q_up J4 b 9 (nI (sG τ 3 + (sP τ p 5 - sC τ d 5)))) (uG (uP (uP (uP (uL τ d (sL τ d ++ [p])) p 4 (d + 1)) p 6 (sP τ p 6 + 1)) p 5 (sP τ p 5 - (sP τ p 5 - sC τ d 5))) 3 (sG τ 3 + (sP τ p 5 - sC τ d 5))) := h.G (j := 3) (by omega) rfl
      have hF := hF.up (a := b) (j := 9) (x := nI (sG τ 3 + (sP τ p 5 - sC τ d 5))) (by omega) (by omega)
      refine q_iinc (ls' := [_, _, _, _, _, _]) dX3_merge_94 rfl (nI_add _ 1) rfl ?_
      refine q_goto (tgt := 2) dX3_merge_97 (by decide) ?_
      exact ih (r + 1) _ _ _ (by omega) (h.eq hsm.symm) hF
  refine q_M.of pnX3_merge (by simp [Value.category]) (Nat.le_of_ble_eq_true rfl) ?_
  refine q_iconst (v := nI 0) dX3_merge_0 (by decide) ?_
  refine q_istore_n (ls' := [_, _, _, _, _, _]) dX3_merge_1 (Nat.le_of_ble_eq_true rfl) rfl ?_
  exact key (sLen σ c) 0 I _ _ (by omega) h FC.rf
theorem c_cancel {b c w : Nat} {I : q_Mem} {σ : q_S} (hk : q_kd b = 3) (h : RC b I σ) (hw : WFc σ) (hc : c < 8) : q_M kX3_cancel [.ref b, .ref (b + 4 + 2 * c), .int (nI w)] I (fun v J => v = none ∧ RC b J (scan σ c w) ∧ FC b I J) := by
  have hkc := kSC hk hc
  have key : ∀ (m k : Nat) (J : q_Mem) (o6 : Option Value), k + m = 30 → RC b J (scl σ c k) → FC b I J → q_X kX3_cancel 12 [some (.ref b), some (.ref (b + 4 + 2 * c)), some (.int (nI w)), some (.ref (b + 2)), some (.int (nI 30)), some (.int (nI k)), o6] [] J (fun v J => v = none ∧ RC b J (scan σ c w) ∧ FC b I J) := by
    intro m
    induction m with
    | zero =>
      intro k J o6 hm h hF
      obtain rfl : k = 30 := by omega
      have hsc := scl_scan hw c w hc
      generalize scl σ c 30 = τ at h hsc
      refine q_iload dX3_cancel_12 rfl ?_
      refine q_iload dX3_cancel_14 rfl ?_
      refine q_icmp_geN (tgt := 54) (by omega) (by omega) dX3_cancel_16 (by decide) (fun h1 => ?_) (fun h1 => ?_)
      · refine q_aload_n dX3_cancel_54 rfl ?_
        refine q_iconst (v := nI 2) dX3_cancel_55 (by decide) ?_
        refine q_putI ⟨fl_RX3_162, rfl, rfl⟩ hkc ⟨rfl, rfl⟩ dX3_cancel_56 ?_
        have h : RC b (q_up J (b + 4 + 2 * c) 8 (nI 2)) (uC τ c 6 3) := h.C (j := 6) hc (by omega) rfl
        have hF := hF.up (a := b + 4 + 2 * c) (j := 8) (x := nI 2) (by omega) (by omega)
        generalize q_up J (b + 4 + 2 * c) 8 (nI 2) = J1 at h hF ⊢
        refine q_aload_n dX3_cancel_59 rfl ?_
        refine q_iload_n dX3_cancel_60 rfl ?_
        refine q_putI ⟨fl_RX3_224, rfl, rfl⟩ hkc ⟨rfl, rfl⟩ dX3_cancel_61 ?_
        have h : RC b (q_up J1 (b + 4 + 2 * c) 9 (nI w)) (uC (uC τ c 6 3) c 9 w) := h.C (j := 9) hc (by omega) rfl
        have hF := hF.up (a := b + 4 + 2 * c) (j := 9) (x := nI w) (by omega) (by omega)
        generalize q_up J1 (b + 4 + 2 * c) 9 (nI w) = J2 at h hF ⊢
        refine q_aload_n dX3_cancel_64 rfl ?_
        refine q_dup dX3_cancel_65 rfl ?_
        refine q_getI fl_RX3_82 rfl (by assumption) (h.g (j := 7) (by omega)) dX3_cancel_66 ?_
        refine q_iconst (v := nI 1) dX3_cancel_69 (by decide) ?_
        refine q_iadd dX3_cancel_70 ?_
        rw [sG_mk, nI_add]
        refine q_putI ⟨fl_RX3_82, rfl, rfl⟩ (by assumption) ⟨rfl, rfl⟩ dX3_cancel_71 ?_
        have h : RC b (q_up J2 b 13 (nI (sG τ 7 + 1))) (uG (uC (uC τ c 6 3) c 9 w) 7 (sG τ 7 + 1)) := h.G (j := 7) (by omega) rfl
        have hF := hF.up (a := b) (j := 13) (x := nI (sG τ 7 + 1)) (by omega) (by omega)
        exact q_vret rfl dX3_cancel_74 ⟨rfl, h.eq hsc, hF⟩
      · omega
    | succ m ih =>
      intro k J o6 hm h hF
      have hk30 : k < 30 := by omega
      have hkp := kSP hk hk30
      have hwk := (scl_spec hw c k).1
      have hp4 := (hwk.pr k).2.2.2.2.1
      have hN8 := hwk.B.1
      refine q_iload dX3_cancel_12 rfl ?_
      refine q_iload dX3_cancel_14 rfl ?_
      refine q_icmp_geN (tgt := 54) (by omega) (by omega) dX3_cancel_16 (by decide) (fun h1 => ?_) (fun h1 => ?_)
      · omega
      refine q_aload_n dX3_cancel_19 rfl ?_
      refine q_iload dX3_cancel_20 rfl ?_
      refine q_aaldP hk rfl hk30 dX3_cancel_22 ?_
      refine q_astore (ls' := [_, _, _, _, _, _, _]) dX3_cancel_23 (Nat.le_of_ble_eq_true rfl) rfl ?_
      refine q_aload dX3_cancel_25 rfl ?_
      refine q_ifnull dX3_cancel_27 ?_
      refine q_aload dX3_cancel_30 rfl ?_
      refine q_getI fl_RX3_182 rfl hkp (h.p hk30 (j := 4) (by omega)) dX3_cancel_32 ?_
      refine q_aload_n dX3_cancel_35 rfl ?_
      refine q_getI fl_RX3_96 rfl hkc (h.cn hc) dX3_cancel_36 ?_
      have hiff : penc 4 (sP (scl σ c k) k 4) = nI c ↔ sP (scl σ c k) k 4 = c + 1 := enc_nI (by omega) (by omega)
      refine q_icmp_ne (tgt := 48) dX3_cancel_39 (by decide) (fun h2 => ?_) (fun h2 => ?_)
      · refine q_iinc (ls' := [_, _, _, _, _, _, _]) dX3_cancel_48 rfl (nI_add _ 1) rfl ?_
        refine q_goto (tgt := 12) dX3_cancel_51 (by decide) ?_
        have hs : scl σ c (k + 1) = scl σ c k := by rw [scl, if_neg (fun z => h2 (hiff.mpr z))]
        exact ih (k + 1) J _ (by omega) (h.eq hs.symm) hF
      · refine q_aload_n dX3_cancel_42 rfl ?_
        refine q_aload dX3_cancel_43 rfl ?_
        refine q_cV (as := [_]) lk_RX3_120 (c_goOut hk h hwk hk30) (Or.inl ⟨3, by decide, by assumption, rfl⟩) rfl (by decide) (Nat.le_of_ble_eq_true rfl) dX3_cancel_45 ?_
        rintro v J2 ⟨rfl, h2', hF2⟩
        refine q_iinc (ls' := [_, _, _, _, _, _, _]) dX3_cancel_48 rfl (nI_add _ 1) rfl ?_
        refine q_goto (tgt := 12) dX3_cancel_51 (by decide) ?_
        have hs : scl σ c (k + 1) = sout (scl σ c k) k := by rw [scl, if_pos (hiff.mp h2)]
        exact ih (k + 1) J2 _ (by omega) (h2'.eq hs.symm) (hF.tr hF2)
  refine q_M.of pnX3_cancel (by simp [Value.category]) (Nat.le_of_ble_eq_true rfl) ?_
  refine q_aload_n dX3_cancel_0 rfl ?_
  refine q_getR fl_RX3_19 rfl (by assumption) dX3_cancel_1 ?_
  refine q_astore_n (ls' := [_, _, _, _, _, _, _]) dX3_cancel_4 (Nat.le_of_ble_eq_true rfl) rfl ?_
  refine q_aload_n dX3_cancel_5 rfl ?_
  refine q_lenP hk rfl dX3_cancel_6 ?_
  refine q_istore (ls' := [_, _, _, _, _, _, _]) dX3_cancel_7 (Nat.le_of_ble_eq_true rfl) rfl ?_
  refine q_iconst (v := nI 0) dX3_cancel_9 (by decide) ?_
  refine q_istore (ls' := [_, _, _, _, _, _, _]) dX3_cancel_10 (Nat.le_of_ble_eq_true rfl) rfl ?_
  exact key 30 0 I _ rfl h FC.rf
end
