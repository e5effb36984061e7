section
-- ===== PART A: goes FIRST, ahead of the names: the tables' words, and 'selects' of the private methods out of them =====
/-- a private method of a class that the tables say can be made, by its rows of tables_1 -/
def lw_okq (q : MethodName × Nat) : Prop := (q.1.cls ≠ "java/lang/invoke/MethodHandle" ∧ q.1.cls ≠ "java/lang/invoke/VarHandle") ∧ Cond.instantiable q.1.cls q.2 ∈ tables_1 ∧ Cond.privateMethod q.1 ∈ tables_1 ∧ Cond.instanceMethod q.1 ∈ tables_1
theorem lw_p0 : lw_okq (⟨"LongSeats$Text", "readNumbers", "(I)I"⟩, 4) := ⟨⟨by decide +kernel, by decide +kernel⟩, List.mem_of_getElem? (i := 25) (by decide +kernel), List.mem_of_getElem? (i := 355) (by decide +kernel), List.mem_of_getElem? (i := 356) (by decide +kernel)⟩
theorem lw_p1 : lw_okq (⟨"LongSeats$Plan", "takeLayer", "([II)Z"⟩, 4) := ⟨⟨by decide +kernel, by decide +kernel⟩, List.mem_of_getElem? (i := 47) (by decide +kernel), List.mem_of_getElem? (i := 363) (by decide +kernel), List.mem_of_getElem? (i := 364) (by decide +kernel)⟩
theorem lw_p2 : lw_okq (⟨"LongSeats$Plan", "takeLets", "(LLongSeats$Layer;[I)Z"⟩, 4) := ⟨⟨by decide +kernel, by decide +kernel⟩, List.mem_of_getElem? (i := 47) (by decide +kernel), List.mem_of_getElem? (i := 376) (by decide +kernel), List.mem_of_getElem? (i := 377) (by decide +kernel)⟩
theorem lw_p3 : lw_okq (⟨"LongSeats$Plan", "takeSeat", "([I)Z"⟩, 4) := ⟨⟨by decide +kernel, by decide +kernel⟩, List.mem_of_getElem? (i := 47) (by decide +kernel), List.mem_of_getElem? (i := 380) (by decide +kernel), List.mem_of_getElem? (i := 381) (by decide +kernel)⟩
theorem lw_p4 : lw_okq (⟨"LongSeats$Plan", "takePatch", "(LLongSeats$Seat;LLongSeats$Layer;[I)Z"⟩, 4) := ⟨⟨by decide +kernel, by decide +kernel⟩, List.mem_of_getElem? (i := 47) (by decide +kernel), List.mem_of_getElem? (i := 392) (by decide +kernel), List.mem_of_getElem? (i := 393) (by decide +kernel)⟩
theorem lw_p5 : lw_okq (⟨"LongSeats", "settles", "(II)Z"⟩, 8) := ⟨⟨by decide +kernel, by decide +kernel⟩, List.mem_of_getElem? (i := 17) (by decide +kernel), List.mem_of_getElem? (i := 429) (by decide +kernel), List.mem_of_getElem? (i := 430) (by decide +kernel)⟩
theorem lw_p6 : lw_okq (⟨"LongSeats$Rest", "findLevel", "(LLongSeats$Body;LLongSeats$Seat;)V"⟩, 8) := ⟨⟨by decide +kernel, by decide +kernel⟩, List.mem_of_getElem? (i := 217) (by decide +kernel), List.mem_of_getElem? (i := 442) (by decide +kernel), List.mem_of_getElem? (i := 443) (by decide +kernel)⟩
theorem lw_p7 : lw_okq (⟨"LongSeats$Rest", "pushTogether", "(LLongSeats$Body;LLongSeats$Seat;I)I"⟩, 8) := ⟨⟨by decide +kernel, by decide +kernel⟩, List.mem_of_getElem? (i := 217) (by decide +kernel), List.mem_of_getElem? (i := 446) (by decide +kernel), List.mem_of_getElem? (i := 447) (by decide +kernel)⟩
theorem lw_p8 : lw_okq (⟨"LongSeats$Rest", "squeezeAt", "(ILLongSeats$Patch;LLongSeats$Body;II)I"⟩, 8) := ⟨⟨by decide +kernel, by decide +kernel⟩, List.mem_of_getElem? (i := 217) (by decide +kernel), List.mem_of_getElem? (i := 450) (by decide +kernel), List.mem_of_getElem? (i := 451) (by decide +kernel)⟩
theorem lw_p9 : lw_okq (⟨"LongSeats", "isPatch", "(II)Z"⟩, 8) := ⟨⟨by decide +kernel, by decide +kernel⟩, List.mem_of_getElem? (i := 17) (by decide +kernel), List.mem_of_getElem? (i := 483) (by decide +kernel), List.mem_of_getElem? (i := 484) (by decide +kernel)⟩
theorem lw_p10 : lw_okq (⟨"LongSeats$Rest", "isHere", "(I)Z"⟩, 8) := ⟨⟨by decide +kernel, by decide +kernel⟩, List.mem_of_getElem? (i := 217) (by decide +kernel), List.mem_of_getElem? (i := 496) (by decide +kernel), List.mem_of_getElem? (i := 497) (by decide +kernel)⟩
theorem lw_p11 : lw_okq (⟨"LongSeats$Crowd", "peopleOf", "(I)I"⟩, 4) := ⟨⟨by decide +kernel, by decide +kernel⟩, List.mem_of_getElem? (i := 154) (by decide +kernel), List.mem_of_getElem? (i := 554) (by decide +kernel), List.mem_of_getElem? (i := 555) (by decide +kernel)⟩
theorem lw_p12 : lw_okq (⟨"LongSeats$Hurt", "hurtOfHour", "(LLongSeats$Rest;)I"⟩, 4) := ⟨⟨by decide +kernel, by decide +kernel⟩, List.mem_of_getElem? (i := 250) (by decide +kernel), List.mem_of_getElem? (i := 609) (by decide +kernel), List.mem_of_getElem? (i := 610) (by decide +kernel)⟩
theorem lw_p13 : lw_okq (⟨"LongSeats$Hurt", "greatestHurt", "(III)I"⟩, 4) := ⟨⟨by decide +kernel, by decide +kernel⟩, List.mem_of_getElem? (i := 250) (by decide +kernel), List.mem_of_getElem? (i := 625) (by decide +kernel), List.mem_of_getElem? (i := 626) (by decide +kernel)⟩
theorem lw_p14 : lw_okq (⟨"LongSeats$Hurt", "nextRow", "(II)Z"⟩, 4) := ⟨⟨by decide +kernel, by decide +kernel⟩, List.mem_of_getElem? (i := 250) (by decide +kernel), List.mem_of_getElem? (i := 629) (by decide +kernel), List.mem_of_getElem? (i := 630) (by decide +kernel)⟩
theorem lw_p15 : lw_okq (⟨"LongSeatsModel", "readAll", "()I"⟩, 30) := ⟨⟨by decide +kernel, by decide +kernel⟩, List.mem_of_getElem? (i := 779) (by decide +kernel), List.mem_of_getElem? (i := 893) (by decide +kernel), List.mem_of_getElem? (i := 894) (by decide +kernel)⟩
def lw_privs_1 : List (MethodName × Nat) := [(⟨"LongSeats$Text", "readNumbers", "(I)I"⟩, 4), (⟨"LongSeats$Plan", "takeLayer", "([II)Z"⟩, 4), (⟨"LongSeats$Plan", "takeLets", "(LLongSeats$Layer;[I)Z"⟩, 4), (⟨"LongSeats$Plan", "takeSeat", "([I)Z"⟩, 4), (⟨"LongSeats$Plan", "takePatch", "(LLongSeats$Seat;LLongSeats$Layer;[I)Z"⟩, 4), (⟨"LongSeats", "settles", "(II)Z"⟩, 8), (⟨"LongSeats$Rest", "findLevel", "(LLongSeats$Body;LLongSeats$Seat;)V"⟩, 8), (⟨"LongSeats$Rest", "pushTogether", "(LLongSeats$Body;LLongSeats$Seat;I)I"⟩, 8), (⟨"LongSeats$Rest", "squeezeAt", "(ILLongSeats$Patch;LLongSeats$Body;II)I"⟩, 8), (⟨"LongSeats", "isPatch", "(II)Z"⟩, 8), (⟨"LongSeats$Rest", "isHere", "(I)Z"⟩, 8), (⟨"LongSeats$Crowd", "peopleOf", "(I)I"⟩, 4), (⟨"LongSeats$Hurt", "hurtOfHour", "(LLongSeats$Rest;)I"⟩, 4), (⟨"LongSeats$Hurt", "greatestHurt", "(III)I"⟩, 4), (⟨"LongSeats$Hurt", "nextRow", "(II)Z"⟩, 4), (⟨"LongSeatsModel", "readAll", "()I"⟩, 30)]
theorem lw_r1 : ∀ q ∈ lw_privs_1, lw_okq q := List.forall_mem_cons.mpr ⟨lw_p0, List.forall_mem_cons.mpr ⟨lw_p1, List.forall_mem_cons.mpr ⟨lw_p2, List.forall_mem_cons.mpr ⟨lw_p3, List.forall_mem_cons.mpr ⟨lw_p4, List.forall_mem_cons.mpr ⟨lw_p5, List.forall_mem_cons.mpr ⟨lw_p6, List.forall_mem_cons.mpr ⟨lw_p7, List.forall_mem_cons.mpr ⟨lw_p8, List.forall_mem_cons.mpr ⟨lw_p9, List.forall_mem_cons.mpr ⟨lw_p10, List.forall_mem_cons.mpr ⟨lw_p11, List.forall_mem_cons.mpr ⟨lw_p12, List.forall_mem_cons.mpr ⟨lw_p13, List.forall_mem_cons.mpr ⟨lw_p14, List.forall_mem_cons.mpr ⟨lw_p15, fun _ h => absurd h List.not_mem_nil⟩⟩⟩⟩⟩⟩⟩⟩⟩⟩⟩⟩⟩⟩⟩⟩
theorem lw_p16 : lw_okq (⟨"LongSeatsModel", "numbers", "()I"⟩, 30) := ⟨⟨by decide +kernel, by decide +kernel⟩, List.mem_of_getElem? (i := 779) (by decide +kernel), List.mem_of_getElem? (i := 897) (by decide +kernel), List.mem_of_getElem? (i := 898) (by decide +kernel)⟩
theorem lw_p17 : lw_okq (⟨"LongSeatsModel", "layer", "(I)Z"⟩, 30) := ⟨⟨by decide +kernel, by decide +kernel⟩, List.mem_of_getElem? (i := 779) (by decide +kernel), List.mem_of_getElem? (i := 904) (by decide +kernel), List.mem_of_getElem? (i := 905) (by decide +kernel)⟩
theorem lw_p18 : lw_okq (⟨"LongSeatsModel", "letting", "(I)Z"⟩, 30) := ⟨⟨by decide +kernel, by decide +kernel⟩, List.mem_of_getElem? (i := 779) (by decide +kernel), List.mem_of_getElem? (i := 910) (by decide +kernel), List.mem_of_getElem? (i := 911) (by decide +kernel)⟩
theorem lw_p19 : lw_okq (⟨"LongSeatsModel", "seat", "(I)Z"⟩, 30) := ⟨⟨by decide +kernel, by decide +kernel⟩, List.mem_of_getElem? (i := 779) (by decide +kernel), List.mem_of_getElem? (i := 914) (by decide +kernel), List.mem_of_getElem? (i := 915) (by decide +kernel)⟩
theorem lw_p20 : lw_okq (⟨"LongSeatsModel", "patch", "(I)Z"⟩, 30) := ⟨⟨by decide +kernel, by decide +kernel⟩, List.mem_of_getElem? (i := 779) (by decide +kernel), List.mem_of_getElem? (i := 923) (by decide +kernel), List.mem_of_getElem? (i := 924) (by decide +kernel)⟩
theorem lw_p21 : lw_okq (⟨"LongSeatsModel", "isBody", "(I)Z"⟩, 30) := ⟨⟨by decide +kernel, by decide +kernel⟩, List.mem_of_getElem? (i := 779) (by decide +kernel), List.mem_of_getElem? (i := 945) (by decide +kernel), List.mem_of_getElem? (i := 946) (by decide +kernel)⟩
theorem lw_p22 : lw_okq (⟨"LongSeatsModel", "isSeat", "(I)Z"⟩, 30) := ⟨⟨by decide +kernel, by decide +kernel⟩, List.mem_of_getElem? (i := 779) (by decide +kernel), List.mem_of_getElem? (i := 954) (by decide +kernel), List.mem_of_getElem? (i := 955) (by decide +kernel)⟩
theorem lw_p23 : lw_okq (⟨"LongSeatsModel", "layLevel", "(II)V"⟩, 30) := ⟨⟨by decide +kernel, by decide +kernel⟩, List.mem_of_getElem? (i := 779) (by decide +kernel), List.mem_of_getElem? (i := 959) (by decide +kernel), List.mem_of_getElem? (i := 960) (by decide +kernel)⟩
theorem lw_p24 : lw_okq (⟨"LongSeatsModel", "pushesAt", "(III)J"⟩, 30) := ⟨⟨by decide +kernel, by decide +kernel⟩, List.mem_of_getElem? (i := 779) (by decide +kernel), List.mem_of_getElem? (i := 963) (by decide +kernel), List.mem_of_getElem? (i := 964) (by decide +kernel)⟩
theorem lw_p25 : lw_okq (⟨"LongSeatsModel", "layerOf", "(II)I"⟩, 30) := ⟨⟨by decide +kernel, by decide +kernel⟩, List.mem_of_getElem? (i := 779) (by decide +kernel), List.mem_of_getElem? (i := 967) (by decide +kernel), List.mem_of_getElem? (i := 968) (by decide +kernel)⟩
theorem lw_p26 : lw_okq (⟨"LongSeatsModel", "touchOf", "(III)I"⟩, 30) := ⟨⟨by decide +kernel, by decide +kernel⟩, List.mem_of_getElem? (i := 779) (by decide +kernel), List.mem_of_getElem? (i := 971) (by decide +kernel), List.mem_of_getElem? (i := 972) (by decide +kernel)⟩
theorem lw_p27 : lw_okq (⟨"LongSeatsModel", "pushBy", "(IJJ)J"⟩, 30) := ⟨⟨by decide +kernel, by decide +kernel⟩, List.mem_of_getElem? (i := 779) (by decide +kernel), List.mem_of_getElem? (i := 975) (by decide +kernel), List.mem_of_getElem? (i := 976) (by decide +kernel)⟩
theorem lw_p28 : lw_okq (⟨"LongSeatsModel", "isPatch", "(II)Z"⟩, 30) := ⟨⟨by decide +kernel, by decide +kernel⟩, List.mem_of_getElem? (i := 779) (by decide +kernel), List.mem_of_getElem? (i := 986) (by decide +kernel), List.mem_of_getElem? (i := 987) (by decide +kernel)⟩
theorem lw_p29 : lw_okq (⟨"LongSeatsModel", "pushOf", "(III)J"⟩, 30) := ⟨⟨by decide +kernel, by decide +kernel⟩, List.mem_of_getElem? (i := 779) (by decide +kernel), List.mem_of_getElem? (i := 990) (by decide +kernel), List.mem_of_getElem? (i := 991) (by decide +kernel)⟩
theorem lw_p30 : lw_okq (⟨"LongSeatsModel", "squeezed", "(III)J"⟩, 30) := ⟨⟨by decide +kernel, by decide +kernel⟩, List.mem_of_getElem? (i := 779) (by decide +kernel), List.mem_of_getElem? (i := 994) (by decide +kernel), List.mem_of_getElem? (i := 995) (by decide +kernel)⟩
theorem lw_p31 : lw_okq (⟨"LongSeatsModel", "bearsBy", "(III)I"⟩, 30) := ⟨⟨by decide +kernel, by decide +kernel⟩, List.mem_of_getElem? (i := 779) (by decide +kernel), List.mem_of_getElem? (i := 1002) (by decide +kernel), List.mem_of_getElem? (i := 1003) (by decide +kernel)⟩
def lw_privs_2 : List (MethodName × Nat) := [(⟨"LongSeatsModel", "numbers", "()I"⟩, 30), (⟨"LongSeatsModel", "layer", "(I)Z"⟩, 30), (⟨"LongSeatsModel", "letting", "(I)Z"⟩, 30), (⟨"LongSeatsModel", "seat", "(I)Z"⟩, 30), (⟨"LongSeatsModel", "patch", "(I)Z"⟩, 30), (⟨"LongSeatsModel", "isBody", "(I)Z"⟩, 30), (⟨"LongSeatsModel", "isSeat", "(I)Z"⟩, 30), (⟨"LongSeatsModel", "layLevel", "(II)V"⟩, 30), (⟨"LongSeatsModel", "pushesAt", "(III)J"⟩, 30), (⟨"LongSeatsModel", "layerOf", "(II)I"⟩, 30), (⟨"LongSeatsModel", "touchOf", "(III)I"⟩, 30), (⟨"LongSeatsModel", "pushBy", "(IJJ)J"⟩, 30), (⟨"LongSeatsModel", "isPatch", "(II)Z"⟩, 30), (⟨"LongSeatsModel", "pushOf", "(III)J"⟩, 30), (⟨"LongSeatsModel", "squeezed", "(III)J"⟩, 30), (⟨"LongSeatsModel", "bearsBy", "(III)I"⟩, 30)]
theorem lw_r2 : ∀ q ∈ lw_privs_2, lw_okq q := List.forall_mem_cons.mpr ⟨lw_p16, List.forall_mem_cons.mpr ⟨lw_p17, List.forall_mem_cons.mpr ⟨lw_p18, List.forall_mem_cons.mpr ⟨lw_p19, List.forall_mem_cons.mpr ⟨lw_p20, List.forall_mem_cons.mpr ⟨lw_p21, List.forall_mem_cons.mpr ⟨lw_p22, List.forall_mem_cons.mpr ⟨lw_p23, List.forall_mem_cons.mpr ⟨lw_p24, List.forall_mem_cons.mpr ⟨lw_p25, List.forall_mem_cons.mpr ⟨lw_p26, List.forall_mem_cons.mpr ⟨lw_p27, List.forall_mem_cons.mpr ⟨lw_p28, List.forall_mem_cons.mpr ⟨lw_p29, List.forall_mem_cons.mpr ⟨lw_p30, List.forall_mem_cons.mpr ⟨lw_p31, fun _ h => absurd h List.not_mem_nil⟩⟩⟩⟩⟩⟩⟩⟩⟩⟩⟩⟩⟩⟩⟩⟩
theorem lw_p32 : lw_okq (⟨"LongSeatsModel", "longOf", "(I)I"⟩, 30) := ⟨⟨by decide +kernel, by decide +kernel⟩, List.mem_of_getElem? (i := 779) (by decide +kernel), List.mem_of_getElem? (i := 1006) (by decide +kernel), List.mem_of_getElem? (i := 1007) (by decide +kernel)⟩
theorem lw_p33 : lw_okq (⟨"LongSeatsModel", "layPresses", "(II)V"⟩, 30) := ⟨⟨by decide +kernel, by decide +kernel⟩, List.mem_of_getElem? (i := 779) (by decide +kernel), List.mem_of_getElem? (i := 1014) (by decide +kernel), List.mem_of_getElem? (i := 1015) (by decide +kernel)⟩
theorem lw_p34 : lw_okq (⟨"LongSeatsModel", "fitsSome", "(II)Z"⟩, 30) := ⟨⟨by decide +kernel, by decide +kernel⟩, List.mem_of_getElem? (i := 779) (by decide +kernel), List.mem_of_getElem? (i := 1028) (by decide +kernel), List.mem_of_getElem? (i := 1029) (by decide +kernel)⟩
theorem lw_p35 : lw_okq (⟨"LongSeatsModel", "fitsAt", "(IIII)Z"⟩, 30) := ⟨⟨by decide +kernel, by decide +kernel⟩, List.mem_of_getElem? (i := 779) (by decide +kernel), List.mem_of_getElem? (i := 1032) (by decide +kernel), List.mem_of_getElem? (i := 1033) (by decide +kernel)⟩
theorem lw_p36 : lw_okq (⟨"LongSeatsModel", "layFitting", "()V"⟩, 30) := ⟨⟨by decide +kernel, by decide +kernel⟩, List.mem_of_getElem? (i := 779) (by decide +kernel), List.mem_of_getElem? (i := 1040) (by decide +kernel), List.mem_of_getElem? (i := 1041) (by decide +kernel)⟩
theorem lw_p37 : lw_okq (⟨"LongSeatsModel", "shareOf", "(I)I"⟩, 30) := ⟨⟨by decide +kernel, by decide +kernel⟩, List.mem_of_getElem? (i := 779) (by decide +kernel), List.mem_of_getElem? (i := 1044) (by decide +kernel), List.mem_of_getElem? (i := 1045) (by decide +kernel)⟩
theorem lw_p38 : lw_okq (⟨"LongSeatsModel", "people", "()I"⟩, 30) := ⟨⟨by decide +kernel, by decide +kernel⟩, List.mem_of_getElem? (i := 779) (by decide +kernel), List.mem_of_getElem? (i := 1048) (by decide +kernel), List.mem_of_getElem? (i := 1049) (by decide +kernel)⟩
theorem lw_p39 : lw_okq (⟨"LongSeatsModel", "hurts", "(I)I"⟩, 30) := ⟨⟨by decide +kernel, by decide +kernel⟩, List.mem_of_getElem? (i := 779) (by decide +kernel), List.mem_of_getElem? (i := 1073) (by decide +kernel), List.mem_of_getElem? (i := 1074) (by decide +kernel)⟩
theorem lw_p40 : lw_okq (⟨"LongSeatsModel", "worst", "(III)I"⟩, 30) := ⟨⟨by decide +kernel, by decide +kernel⟩, List.mem_of_getElem? (i := 779) (by decide +kernel), List.mem_of_getElem? (i := 1083) (by decide +kernel), List.mem_of_getElem? (i := 1084) (by decide +kernel)⟩
theorem lw_p41 : lw_okq (⟨"LongSeatsModel", "throughOf", "(IIII)I"⟩, 30) := ⟨⟨by decide +kernel, by decide +kernel⟩, List.mem_of_getElem? (i := 779) (by decide +kernel), List.mem_of_getElem? (i := 1098) (by decide +kernel), List.mem_of_getElem? (i := 1099) (by decide +kernel)⟩
theorem lw_p42 : lw_okq (⟨"LongSeatsModel", "doseOf", "(IIII)J"⟩, 30) := ⟨⟨by decide +kernel, by decide +kernel⟩, List.mem_of_getElem? (i := 779) (by decide +kernel), List.mem_of_getElem? (i := 1107) (by decide +kernel), List.mem_of_getElem? (i := 1108) (by decide +kernel)⟩
theorem lw_p43 : lw_okq (⟨"LongSeatsModel", "wear", "(III)V"⟩, 30) := ⟨⟨by decide +kernel, by decide +kernel⟩, List.mem_of_getElem? (i := 779) (by decide +kernel), List.mem_of_getElem? (i := 1117) (by decide +kernel), List.mem_of_getElem? (i := 1118) (by decide +kernel)⟩
theorem lw_p44 : lw_okq (⟨"LongSeatsModel", "isPast", "(II)Z"⟩, 30) := ⟨⟨by decide +kernel, by decide +kernel⟩, List.mem_of_getElem? (i := 779) (by decide +kernel), List.mem_of_getElem? (i := 1130) (by decide +kernel), List.mem_of_getElem? (i := 1131) (by decide +kernel)⟩
def lw_privs_3 : List (MethodName × Nat) := [(⟨"LongSeatsModel", "longOf", "(I)I"⟩, 30), (⟨"LongSeatsModel", "layPresses", "(II)V"⟩, 30), (⟨"LongSeatsModel", "fitsSome", "(II)Z"⟩, 30), (⟨"LongSeatsModel", "fitsAt", "(IIII)Z"⟩, 30), (⟨"LongSeatsModel", "layFitting", "()V"⟩, 30), (⟨"LongSeatsModel", "shareOf", "(I)I"⟩, 30), (⟨"LongSeatsModel", "people", "()I"⟩, 30), (⟨"LongSeatsModel", "hurts", "(I)I"⟩, 30), (⟨"LongSeatsModel", "worst", "(III)I"⟩, 30), (⟨"LongSeatsModel", "throughOf", "(IIII)I"⟩, 30), (⟨"LongSeatsModel", "doseOf", "(IIII)J"⟩, 30), (⟨"LongSeatsModel", "wear", "(III)V"⟩, 30), (⟨"LongSeatsModel", "isPast", "(II)Z"⟩, 30)]
theorem lw_r3 : ∀ q ∈ lw_privs_3, lw_okq q := List.forall_mem_cons.mpr ⟨lw_p32, List.forall_mem_cons.mpr ⟨lw_p33, List.forall_mem_cons.mpr ⟨lw_p34, List.forall_mem_cons.mpr ⟨lw_p35, List.forall_mem_cons.mpr ⟨lw_p36, List.forall_mem_cons.mpr ⟨lw_p37, List.forall_mem_cons.mpr ⟨lw_p38, List.forall_mem_cons.mpr ⟨lw_p39, List.forall_mem_cons.mpr ⟨lw_p40, List.forall_mem_cons.mpr ⟨lw_p41, List.forall_mem_cons.mpr ⟨lw_p42, List.forall_mem_cons.mpr ⟨lw_p43, List.forall_mem_cons.mpr ⟨lw_p44, fun _ h => absurd h List.not_mem_nil⟩⟩⟩⟩⟩⟩⟩⟩⟩⟩⟩⟩⟩
def lw_privs : List (MethodName × Nat) := lw_privs_1 ++ (lw_privs_2 ++ (lw_privs_3))
def lw_tbl : List Cond := k2_sels lw_privs ++ tables_1
theorem lw_privs_ok : ∀ q ∈ lw_privs, lw_okq q := by
  show ∀ q ∈ lw_privs_1 ++ (lw_privs_2 ++ (lw_privs_3)), lw_okq q
  exact List.forall_mem_append.mpr ⟨lw_r1, List.forall_mem_append.mpr ⟨lw_r2, lw_r3⟩⟩
def RX0 : String := "LongSeats$Body"
def TX0 : u_T := fun k => match k with
  | 0 => ("LongSeats$Body", "weight", "I", false)
  | 1 => ("LongSeats$Body", "leg", "I", false)
  | 2 => ("LongSeats$Body", "reach", "I", false)
  | 3 => ("LongSeats$Body", "eye", "I", false)
  | 4 => ("LongSeats$Body", "hip", "I", false)
  | 5 => ("LongSeats$Body", "heap", "I", false)
  | 6 => ("LongSeats$Body", "hangs", "[I", true)
  | _ => ("LongSeats$Body", "saids", "[I", true)
def tyX0 : Nat → FieldType := fun k => match k with
  | 0 => .int
  | 1 => .int
  | 2 => .int
  | 3 => .int
  | 4 => .int
  | 5 => .int
  | 6 => .array .int
  | _ => .array .int
theorem nmX0 : ∀ a, a < 8 → ∀ b, b < 8 → a ≠ b → (TX0 a).2.1 ≠ (TX0 b).2.1 := by decide +kernel
theorem tyX0_ok : ∀ k, k < 8 → parseFieldDescriptor (TX0 k).2.2.1 = some (tyX0 k) := by decide +kernel
abbrev cX0_init : ByteArray := prog_2_method_1_code
def yX0_init : MethodName := ⟨RX0, "<init>", "()V"⟩
abbrev cX0_say : ByteArray := prog_2_method_2_code
def yX0_say : MethodName := ⟨RX0, "say", "(II)V"⟩
abbrev cX0_hasTried : ByteArray := prog_2_method_3_code
def yX0_hasTried : MethodName := ⟨RX0, "hasTried", "(I)Z"⟩
abbrev cX0_saidOf : ByteArray := prog_2_method_4_code
def yX0_saidOf : MethodName := ⟨RX0, "saidOf", "(I)I"⟩
abbrev cX0_triedSeats : ByteArray := prog_2_method_5_code
def yX0_triedSeats : MethodName := ⟨RX0, "triedSeats", "()I"⟩
abbrev cX0_saidTogether : ByteArray := prog_2_method_6_code
def yX0_saidTogether : MethodName := ⟨RX0, "saidTogether", "()I"⟩
def RX1 : String := "LongSeats$Crowd"
def TX1 : u_T := fun k => match k with
  | 0 => ("LongSeats$Crowd", "bodies", "[LLongSeats$Body;", true)
  | 1 => ("LongSeats$Crowd", "bodyCount", "I", false)
  | 2 => ("LongSeats$Crowd", "slackNow", "I", false)
  | _ => ("LongSeats$Crowd", "fitted", "[I", true)
def tyX1 : Nat → FieldType := fun k => match k with
  | 0 => .array (.object "LongSeats$Body")
  | 1 => .int
  | 2 => .int
  | _ => .array .int
theorem nmX1 : ∀ a, a < 4 → ∀ b, b < 4 → a ≠ b → (TX1 a).2.1 ≠ (TX1 b).2.1 := by decide +kernel
theorem tyX1_ok : ∀ k, k < 4 → parseFieldDescriptor (TX1 k).2.2.1 = some (tyX1 k) := by decide +kernel
abbrev cX1_init : ByteArray := prog_3_method_1_code
def yX1_init : MethodName := ⟨RX1, "<init>", "()V"⟩
abbrev cX1_bodyAt : ByteArray := prog_3_method_2_code
def yX1_bodyAt : MethodName := ⟨RX1, "bodyAt", "(I)LLongSeats$Body;"⟩
abbrev cX1_nextBody : ByteArray := prog_3_method_3_code
def yX1_nextBody : MethodName := ⟨RX1, "nextBody", "()LLongSeats$Body;"⟩
abbrev cX1_people : ByteArray := prog_3_method_4_code
def yX1_people : MethodName := ⟨RX1, "people", "()I"⟩
abbrev cX1_peopleOf : ByteArray := prog_3_method_5_code
def yX1_peopleOf : MethodName := ⟨RX1, "peopleOf", "(I)I"⟩
abbrev cX1_fitsAt : ByteArray := prog_3_method_6_code
def yX1_fitsAt : MethodName := ⟨RX1, "fitsAt", "(LLongSeats$Body;LLongSeats$Seat;II)Z"⟩
abbrev cX1_fitsSomehow : ByteArray := prog_3_method_7_code
def yX1_fitsSomehow : MethodName := ⟨RX1, "fitsSomehow", "(LLongSeats$Body;LLongSeats$Seat;)Z"⟩
abbrev cX1_peopleAt : ByteArray := prog_3_method_8_code
def yX1_peopleAt : MethodName := ⟨RX1, "peopleAt", "(LLongSeats$Seat;II)I"⟩
abbrev cX1_bestSetting : ByteArray := prog_3_method_9_code
def yX1_bestSetting : MethodName := ⟨RX1, "bestSetting", "(LLongSeats$Seat;)I"⟩
abbrev cX1_noteWhoFits : ByteArray := prog_3_method_10_code
def yX1_noteWhoFits : MethodName := ⟨RX1, "noteWhoFits", "(LLongSeats$Plan;)V"⟩
abbrev cX1_peopleOfSet : ByteArray := prog_3_method_11_code
def yX1_peopleOfSet : MethodName := ⟨RX1, "peopleOfSet", "(I)I"⟩
abbrev cX1_fewestSeats : ByteArray := prog_3_method_12_code
def yX1_fewestSeats : MethodName := ⟨RX1, "fewestSeats", "(II)I"⟩
def RX2 : String := "LongSeats$Hurt"
def TX2 : u_T := fun k => match k with
  | 0 => ("LongSeats$Hurt", "mark", "I", false)
  | 1 => ("LongSeats$Hurt", "ease", "I", false)
  | 2 => ("LongSeats$Hurt", "tried", "[I", true)
  | _ => ("LongSeats$Hurt", "best", "[I", true)
def tyX2 : Nat → FieldType := fun k => match k with
  | 0 => .int
  | 1 => .int
  | 2 => .array .int
  | _ => .array .int
theorem nmX2 : ∀ a, a < 4 → ∀ b, b < 4 → a ≠ b → (TX2 a).2.1 ≠ (TX2 b).2.1 := by decide +kernel
theorem tyX2_ok : ∀ k, k < 4 → parseFieldDescriptor (TX2 k).2.2.1 = some (tyX2 k) := by decide +kernel
abbrev cX2_init : ByteArray := prog_4_method_1_code
def yX2_init : MethodName := ⟨RX2, "<init>", "()V"⟩
abbrev cX2_hurtOfHour : ByteArray := prog_4_method_2_code
def yX2_hurtOfHour : MethodName := ⟨RX2, "hurtOfHour", "(LLongSeats$Rest;)I"⟩
abbrev cX2_hoursUntil : ByteArray := prog_4_method_3_code
def yX2_hoursUntil : MethodName := ⟨RX2, "hoursUntil", "(LLongSeats$Rest;I)I"⟩
abbrev cX2_placeStops : ByteArray := prog_4_method_4_code
def yX2_placeStops : MethodName := ⟨RX2, "placeStops", "(LLongSeats$Rest;II)I"⟩
abbrev cX2_stopAt : ByteArray := prog_4_method_5_code
def yX2_stopAt : MethodName := ⟨RX2, "stopAt", "(I)I"⟩
abbrev cX2_nextRow : ByteArray := prog_4_method_6_code
def yX2_nextRow : MethodName := ⟨RX2, "nextRow", "(II)Z"⟩
abbrev cX2_greatestHurt : ByteArray := prog_4_method_7_code
def yX2_greatestHurt : MethodName := ⟨RX2, "greatestHurt", "(III)I"⟩
def RX3 : String := "LongSeats$Layer"
def TX3 : u_T := fun k => match k with
  | 0 => ("LongSeats$Layer", "lengths", "[I", true)
  | 1 => ("LongSeats$Layer", "hards", "[I", true)
  | 2 => ("LongSeats$Layer", "pieceCount", "I", false)
  | _ => ("LongSeats$Layer", "lets", "[I", true)
def tyX3 : Nat → FieldType := fun k => match k with
  | 0 => .array .int
  | 1 => .array .int
  | 2 => .int
  | _ => .array .int
theorem nmX3 : ∀ a, a < 4 → ∀ b, b < 4 → a ≠ b → (TX3 a).2.1 ≠ (TX3 b).2.1 := by decide +kernel
theorem tyX3_ok : ∀ k, k < 4 → parseFieldDescriptor (TX3 k).2.2.1 = some (tyX3 k) := by decide +kernel
abbrev cX3_init : ByteArray := prog_5_method_1_code
def yX3_init : MethodName := ⟨RX3, "<init>", "()V"⟩
abbrev cX3_begin : ByteArray := prog_5_method_2_code
def yX3_begin : MethodName := ⟨RX3, "begin", "([II)V"⟩
abbrev cX3_wholeLength : ByteArray := prog_5_method_3_code
def yX3_wholeLength : MethodName := ⟨RX3, "wholeLength", "()I"⟩
abbrev cX3_pushOf : ByteArray := prog_5_method_4_code
def yX3_pushOf : MethodName := ⟨RX3, "pushOf", "(II)I"⟩
def RX4 : String := "LongSeats$Patch"
def TX4 : u_T := fun k => match k with
  | 0 => ("LongSeats$Patch", "layer", "LLongSeats$Layer;", false)
  | 1 => ("LongSeats$Patch", "top", "I", false)
  | 2 => ("LongSeats$Patch", "area", "I", false)
  | _ => ("LongSeats$Patch", "wornBy", "I", false)
def tyX4 : Nat → FieldType := fun k => match k with
  | 0 => .object "LongSeats$Layer"
  | 1 => .int
  | 2 => .int
  | _ => .int
theorem nmX4 : ∀ a, a < 4 → ∀ b, b < 4 → a ≠ b → (TX4 a).2.1 ≠ (TX4 b).2.1 := by decide +kernel
theorem tyX4_ok : ∀ k, k < 4 → parseFieldDescriptor (TX4 k).2.2.1 = some (tyX4 k) := by decide +kernel
abbrev cX4_init : ByteArray := prog_6_method_1_code
def yX4_init : MethodName := ⟨RX4, "<init>", "(LLongSeats$Layer;)V"⟩
def RX5 : String := "LongSeats$Plan"
def TX5 : u_T := fun k => match k with
  | 0 => ("LongSeats$Plan", "layers", "[LLongSeats$Layer;", true)
  | 1 => ("LongSeats$Plan", "layerCount", "I", false)
  | 2 => ("LongSeats$Plan", "seats", "[LLongSeats$Seat;", true)
  | _ => ("LongSeats$Plan", "seatCount", "I", false)
def tyX5 : Nat → FieldType := fun k => match k with
  | 0 => .array (.object "LongSeats$Layer")
  | 1 => .int
  | 2 => .array (.object "LongSeats$Seat")
  | _ => .int
theorem nmX5 : ∀ a, a < 4 → ∀ b, b < 4 → a ≠ b → (TX5 a).2.1 ≠ (TX5 b).2.1 := by decide +kernel
theorem tyX5_ok : ∀ k, k < 4 → parseFieldDescriptor (TX5 k).2.2.1 = some (tyX5 k) := by decide +kernel
abbrev cX5_init : ByteArray := prog_7_method_1_code
def yX5_init : MethodName := ⟨RX5, "<init>", "()V"⟩
abbrev cX5_clear : ByteArray := prog_7_method_2_code
def yX5_clear : MethodName := ⟨RX5, "clear", "()V"⟩
abbrev cX5_layerAt : ByteArray := prog_7_method_3_code
def yX5_layerAt : MethodName := ⟨RX5, "layerAt", "(I)LLongSeats$Layer;"⟩
abbrev cX5_seatAt : ByteArray := prog_7_method_4_code
def yX5_seatAt : MethodName := ⟨RX5, "seatAt", "(I)LLongSeats$Seat;"⟩
abbrev cX5_takeItem : ByteArray := prog_7_method_5_code
def yX5_takeItem : MethodName := ⟨RX5, "takeItem", "(B[II)Z"⟩
abbrev cX5_takeLayer : ByteArray := prog_7_method_6_code
def yX5_takeLayer : MethodName := ⟨RX5, "takeLayer", "([II)Z"⟩
abbrev cX5_takeLets : ByteArray := prog_7_method_7_code
def yX5_takeLets : MethodName := ⟨RX5, "takeLets", "(LLongSeats$Layer;[I)Z"⟩
abbrev cX5_takeSeat : ByteArray := prog_7_method_8_code
def yX5_takeSeat : MethodName := ⟨RX5, "takeSeat", "([I)Z"⟩
abbrev cX5_takePatch : ByteArray := prog_7_method_9_code
def yX5_takePatch : MethodName := ⟨RX5, "takePatch", "(LLongSeats$Seat;LLongSeats$Layer;[I)Z"⟩
abbrev cX5_allSeatsHavePatches : ByteArray := prog_7_method_10_code
def yX5_allSeatsHavePatches : MethodName := ⟨RX5, "allSeatsHavePatches", "()Z"⟩
abbrev cX5_patchesOfAll : ByteArray := prog_7_method_11_code
def yX5_patchesOfAll : MethodName := ⟨RX5, "patchesOfAll", "()I"⟩
def RX6 : String := "LongSeats$Rest"
def TX6 : u_T := fun k => match k with
  | 0 => ("LongSeats$Rest", "above", "I", false)
  | 1 => ("LongSeats$Rest", "below", "I", false)
  | 2 => ("LongSeats$Rest", "patchCount", "I", false)
  | 3 => ("LongSeats$Rest", "worns", "[I", true)
  | 4 => ("LongSeats$Rest", "presses", "[I", true)
  | 5 => ("LongSeats$Rest", "states", "[I", true)
  | 6 => ("LongSeats$Rest", "pushes", "[I", true)
  | _ => ("LongSeats$Rest", "lets", "[I", true)
def tyX6 : Nat → FieldType := fun k => match k with
  | 0 => .int
  | 1 => .int
  | 2 => .int
  | 3 => .array .int
  | 4 => .array .int
  | 5 => .array .int
  | 6 => .array .int
  | _ => .array .int
theorem nmX6 : ∀ a, a < 8 → ∀ b, b < 8 → a ≠ b → (TX6 a).2.1 ≠ (TX6 b).2.1 := by decide +kernel
theorem tyX6_ok : ∀ k, k < 8 → parseFieldDescriptor (TX6 k).2.2.1 = some (tyX6 k) := by decide +kernel
abbrev cX6_init : ByteArray := prog_8_method_1_code
def yX6_init : MethodName := ⟨RX6, "<init>", "()V"⟩
abbrev cX6_takeWorn : ByteArray := prog_8_method_2_code
def yX6_takeWorn : MethodName := ⟨RX6, "takeWorn", "(LLongSeats$Seat;)V"⟩
abbrev cX6_giveWorn : ByteArray := prog_8_method_3_code
def yX6_giveWorn : MethodName := ⟨RX6, "giveWorn", "(LLongSeats$Seat;)V"⟩
abbrev cX6_settle : ByteArray := prog_8_method_4_code
def yX6_settle : MethodName := ⟨RX6, "settle", "(LLongSeats$Body;LLongSeats$Seat;)V"⟩
abbrev cX6_findLevel : ByteArray := prog_8_method_5_code
def yX6_findLevel : MethodName := ⟨RX6, "findLevel", "(LLongSeats$Body;LLongSeats$Seat;)V"⟩
abbrev cX6_pushTogether : ByteArray := prog_8_method_6_code
def yX6_pushTogether : MethodName := ⟨RX6, "pushTogether", "(LLongSeats$Body;LLongSeats$Seat;I)I"⟩
abbrev cX6_squeezeAt : ByteArray := prog_8_method_7_code
def yX6_squeezeAt : MethodName := ⟨RX6, "squeezeAt", "(ILLongSeats$Patch;LLongSeats$Body;II)I"⟩
abbrev cX6_isHere : ByteArray := prog_8_method_8_code
def yX6_isHere : MethodName := ⟨RX6, "isHere", "(I)Z"⟩
abbrev cX6_patches : ByteArray := prog_8_method_9_code
def yX6_patches : MethodName := ⟨RX6, "patches", "()I"⟩
abbrev cX6_pushAt : ByteArray := prog_8_method_10_code
def yX6_pushAt : MethodName := ⟨RX6, "pushAt", "(I)I"⟩
abbrev cX6_pushCutAt : ByteArray := prog_8_method_11_code
def yX6_pushCutAt : MethodName := ⟨RX6, "pushCutAt", "(I)I"⟩
abbrev cX6_stateAt : ByteArray := prog_8_method_12_code
def yX6_stateAt : MethodName := ⟨RX6, "stateAt", "(I)I"⟩
abbrev cX6_pressAt : ByteArray := prog_8_method_13_code
def yX6_pressAt : MethodName := ⟨RX6, "pressAt", "(I)I"⟩
abbrev cX6_letAt : ByteArray := prog_8_method_14_code
def yX6_letAt : MethodName := ⟨RX6, "letAt", "(II)I"⟩
abbrev cX6_firstPatch : ByteArray := prog_8_method_15_code
def yX6_firstPatch : MethodName := ⟨RX6, "firstPatch", "()I"⟩
abbrev cX6_wearOneYear : ByteArray := prog_8_method_16_code
def yX6_wearOneYear : MethodName := ⟨RX6, "wearOneYear", "(I)V"⟩
abbrev cX6_mostWorn : ByteArray := prog_8_method_17_code
def yX6_mostWorn : MethodName := ⟨RX6, "mostWorn", "()I"⟩
def RX7 : String := "LongSeats$Roads"
def TX7 : u_T := fun k => match k with
  | _ => ("LongSeats$Roads", "tones", "[I", true)
def tyX7 : Nat → FieldType := fun k => match k with
  | _ => .array .int
theorem nmX7 : ∀ a, a < 1 → ∀ b, b < 1 → a ≠ b → (TX7 a).2.1 ≠ (TX7 b).2.1 := by decide +kernel
theorem tyX7_ok : ∀ k, k < 1 → parseFieldDescriptor (TX7 k).2.2.1 = some (tyX7 k) := by decide +kernel
abbrev cX7_init : ByteArray := prog_9_method_1_code
def yX7_init : MethodName := ⟨RX7, "<init>", "()V"⟩
abbrev cX7_toneOf : ByteArray := prog_9_method_2_code
def yX7_toneOf : MethodName := ⟨RX7, "toneOf", "(II)I"⟩
abbrev cX7_setTone : ByteArray := prog_9_method_3_code
def yX7_setTone : MethodName := ⟨RX7, "setTone", "(III)V"⟩
abbrev cX7_comesThrough : ByteArray := prog_9_method_4_code
def yX7_comesThrough : MethodName := ⟨RX7, "comesThrough", "(LLongSeats$Rest;II)I"⟩
abbrev cX7_doseOfHour : ByteArray := prog_9_method_5_code
def yX7_doseOfHour : MethodName := ⟨RX7, "doseOfHour", "(LLongSeats$Rest;I)J"⟩
def RX8 : String := "LongSeats$Seat"
def TX8 : u_T := fun k => match k with
  | 0 => ("LongSeats$Seat", "base", "I", false)
  | 1 => ("LongSeats$Seat", "distance", "I", false)
  | 2 => ("LongSeats$Seat", "sight", "I", false)
  | 3 => ("LongSeats$Seat", "width", "I", false)
  | 4 => ("LongSeats$Seat", "yearCount", "I", false)
  | 5 => ("LongSeats$Seat", "patches", "[LLongSeats$Patch;", true)
  | _ => ("LongSeats$Seat", "patchCount", "I", false)
def tyX8 : Nat → FieldType := fun k => match k with
  | 0 => .int
  | 1 => .int
  | 2 => .int
  | 3 => .int
  | 4 => .int
  | 5 => .array (.object "LongSeats$Patch")
  | _ => .int
theorem nmX8 : ∀ a, a < 7 → ∀ b, b < 7 → a ≠ b → (TX8 a).2.1 ≠ (TX8 b).2.1 := by decide +kernel
theorem tyX8_ok : ∀ k, k < 7 → parseFieldDescriptor (TX8 k).2.2.1 = some (tyX8 k) := by decide +kernel
abbrev cX8_init : ByteArray := prog_10_method_1_code
def yX8_init : MethodName := ⟨RX8, "<init>", "(LLongSeats$Layer;)V"⟩
abbrev cX8_begin : ByteArray := prog_10_method_2_code
def yX8_begin : MethodName := ⟨RX8, "begin", "([I)V"⟩
abbrev cX8_addPatch : ByteArray := prog_10_method_3_code
def yX8_addPatch : MethodName := ⟨RX8, "addPatch", "(LLongSeats$Layer;II)Z"⟩
abbrev cX8_patchAt : ByteArray := prog_10_method_4_code
def yX8_patchAt : MethodName := ⟨RX8, "patchAt", "(I)LLongSeats$Patch;"⟩
abbrev cX8_heightInMm : ByteArray := prog_10_method_5_code
def yX8_heightInMm : MethodName := ⟨RX8, "heightInMm", "(I)I"⟩
abbrev cX8_wayInMm : ByteArray := prog_10_method_6_code
def yX8_wayInMm : MethodName := ⟨RX8, "wayInMm", "(I)I"⟩
def RX9 : String := "LongSeats$Text"
def TX9 : u_T := fun k => match k with
  | 0 => ("LongSeats$Text", "bytes", "[B", true)
  | 1 => ("LongSeats$Text", "length", "I", false)
  | 2 => ("LongSeats$Text", "numbers", "[I", true)
  | _ => ("LongSeats$Text", "numberCount", "I", false)
def tyX9 : Nat → FieldType := fun k => match k with
  | 0 => .array .byte
  | 1 => .int
  | 2 => .array .int
  | _ => .int
theorem nmX9 : ∀ a, a < 4 → ∀ b, b < 4 → a ≠ b → (TX9 a).2.1 ≠ (TX9 b).2.1 := by decide +kernel
theorem tyX9_ok : ∀ k, k < 4 → parseFieldDescriptor (TX9 k).2.2.1 = some (tyX9 k) := by decide +kernel
abbrev cX9_init : ByteArray := prog_11_method_1_code
def yX9_init : MethodName := ⟨RX9, "<init>", "()V"⟩
abbrev cX9_append : ByteArray := prog_11_method_2_code
def yX9_append : MethodName := ⟨RX9, "append", "(IJ)Z"⟩
abbrev cX9_readInto : ByteArray := prog_11_method_3_code
def yX9_readInto : MethodName := ⟨RX9, "readInto", "(LLongSeats$Plan;)I"⟩
abbrev cX9_readNumbers : ByteArray := prog_11_method_4_code
def yX9_readNumbers : MethodName := ⟨RX9, "readNumbers", "(I)I"⟩
def RX10 : String := "LongSeats$Trials"
def TX10 : u_T := fun k => match k with
  | 0 => ("LongSeats$Trials", "trialCount", "I", false)
  | 1 => ("LongSeats$Trials", "wins", "I", false)
  | 2 => ("LongSeats$Trials", "losses", "I", false)
  | _ => ("LongSeats$Trials", "alike", "I", false)
def tyX10 : Nat → FieldType := fun k => match k with
  | 0 => .int
  | 1 => .int
  | 2 => .int
  | _ => .int
theorem nmX10 : ∀ a, a < 4 → ∀ b, b < 4 → a ≠ b → (TX10 a).2.1 ≠ (TX10 b).2.1 := by decide +kernel
theorem tyX10_ok : ∀ k, k < 4 → parseFieldDescriptor (TX10 k).2.2.1 = some (tyX10 k) := by decide +kernel
abbrev cX10_init : ByteArray := prog_12_method_1_code
def yX10_init : MethodName := ⟨RX10, "<init>", "()V"⟩
abbrev cX10_compare : ByteArray := prog_12_method_2_code
def yX10_compare : MethodName := ⟨RX10, "compare", "(LLongSeats$Crowd;II)V"⟩
abbrev cX10_odds : ByteArray := prog_12_method_3_code
def yX10_odds : MethodName := ⟨RX10, "odds", "()I"⟩
abbrev cX10_sixtiethsOf : ByteArray := prog_12_method_4_code
def yX10_sixtiethsOf : MethodName := ⟨RX10, "sixtiethsOf", "(LLongSeats$Crowd;I)I"⟩
def RX11 : String := "LongSeats"
def TX11 : u_T := fun k => match k with
  | 0 => ("LongSeats", "text", "LLongSeats$Text;", true)
  | 1 => ("LongSeats", "laid", "LLongSeats$Plan;", false)
  | 2 => ("LongSeats", "draft", "LLongSeats$Plan;", false)
  | 3 => ("LongSeats", "crowd", "LLongSeats$Crowd;", true)
  | 4 => ("LongSeats", "rest", "LLongSeats$Rest;", true)
  | 5 => ("LongSeats", "hurt", "LLongSeats$Hurt;", true)
  | 6 => ("LongSeats", "roads", "LLongSeats$Roads;", true)
  | _ => ("LongSeats", "trials", "LLongSeats$Trials;", true)
def tyX11 : Nat → FieldType := fun k => match k with
  | 0 => .object "LongSeats$Text"
  | 1 => .object "LongSeats$Plan"
  | 2 => .object "LongSeats$Plan"
  | 3 => .object "LongSeats$Crowd"
  | 4 => .object "LongSeats$Rest"
  | 5 => .object "LongSeats$Hurt"
  | 6 => .object "LongSeats$Roads"
  | _ => .object "LongSeats$Trials"
theorem nmX11 : ∀ a, a < 8 → ∀ b, b < 8 → a ≠ b → (TX11 a).2.1 ≠ (TX11 b).2.1 := by decide +kernel
theorem tyX11_ok : ∀ k, k < 8 → parseFieldDescriptor (TX11 k).2.2.1 = some (tyX11 k) := by decide +kernel
abbrev cX11_init : ByteArray := prog_1_method_1_code
def yX11_init : MethodName := ⟨RX11, "<init>", "()V"⟩
abbrev cX11_write : ByteArray := prog_1_method_2_code
def yX11_write : MethodName := ⟨RX11, "write", "(IJ)I"⟩
abbrev cX11_wipe : ByteArray := prog_1_method_3_code
def yX11_wipe : MethodName := ⟨RX11, "wipe", "()I"⟩
abbrev cX11_fault : ByteArray := prog_1_method_4_code
def yX11_fault : MethodName := ⟨RX11, "fault", "()I"⟩
abbrev cX11_lay : ByteArray := prog_1_method_5_code
def yX11_lay : MethodName := ⟨RX11, "lay", "()I"⟩
abbrev cX11_body : ByteArray := prog_1_method_6_code
def yX11_body : MethodName := ⟨RX11, "body", "(IIIIII)I"⟩
abbrev cX11_hang : ByteArray := prog_1_method_7_code
def yX11_hang : MethodName := ⟨RX11, "hang", "(III)I"⟩
abbrev cX11_level : ByteArray := prog_1_method_8_code
def yX11_level : MethodName := ⟨RX11, "level", "(III)I"⟩
abbrev cX11_push : ByteArray := prog_1_method_9_code
def yX11_push : MethodName := ⟨RX11, "push", "(IIII)I"⟩
abbrev cX11_bears : ByteArray := prog_1_method_10_code
def yX11_bears : MethodName := ⟨RX11, "bears", "(III)I"⟩
abbrev cX11_press : ByteArray := prog_1_method_11_code
def yX11_press : MethodName := ⟨RX11, "press", "(III)I"⟩
abbrev cX11_slack : ByteArray := prog_1_method_12_code
def yX11_slack : MethodName := ⟨RX11, "slack", "(I)I"⟩
abbrev cX11_fits : ByteArray := prog_1_method_13_code
def yX11_fits : MethodName := ⟨RX11, "fits", "(IIII)I"⟩
abbrev cX11_share : ByteArray := prog_1_method_14_code
def yX11_share : MethodName := ⟨RX11, "share", "(II)I"⟩
abbrev cX11_setting : ByteArray := prog_1_method_15_code
def yX11_setting : MethodName := ⟨RX11, "setting", "(II)I"⟩
abbrev cX11_fewest : ByteArray := prog_1_method_16_code
def yX11_fewest : MethodName := ⟨RX11, "fewest", "(I)I"⟩
abbrev cX11_law : ByteArray := prog_1_method_17_code
def yX11_law : MethodName := ⟨RX11, "law", "(II)I"⟩
abbrev cX11_hours : ByteArray := prog_1_method_18_code
def yX11_hours : MethodName := ⟨RX11, "hours", "(III)I"⟩
abbrev cX11_stops : ByteArray := prog_1_method_19_code
def yX11_stops : MethodName := ⟨RX11, "stops", "(IIIII)I"⟩
abbrev cX11_road : ByteArray := prog_1_method_20_code
def yX11_road : MethodName := ⟨RX11, "road", "(III)I"⟩
abbrev cX11_through : ByteArray := prog_1_method_21_code
def yX11_through : MethodName := ⟨RX11, "through", "(IIII)I"⟩
abbrev cX11_dose : ByteArray := prog_1_method_22_code
def yX11_dose : MethodName := ⟨RX11, "dose", "(IIIIII)J"⟩
abbrev cX11_years : ByteArray := prog_1_method_23_code
def yX11_years : MethodName := ⟨RX11, "years", "(IIII)I"⟩
abbrev cX11_worn : ByteArray := prog_1_method_24_code
def yX11_worn : MethodName := ⟨RX11, "worn", "(II)I"⟩
abbrev cX11_until : ByteArray := prog_1_method_25_code
def yX11_until : MethodName := ⟨RX11, "until", "(IIII)I"⟩
abbrev cX11_trial : ByteArray := prog_1_method_26_code
def yX11_trial : MethodName := ⟨RX11, "trial", "(III)I"⟩
abbrev cX11_against : ByteArray := prog_1_method_27_code
def yX11_against : MethodName := ⟨RX11, "against", "(III)I"⟩
abbrev cX11_score : ByteArray := prog_1_method_28_code
def yX11_score : MethodName := ⟨RX11, "score", "(II)I"⟩
abbrev cX11_count : ByteArray := prog_1_method_29_code
def yX11_count : MethodName := ⟨RX11, "count", "(I)I"⟩
abbrev cX11_settles : ByteArray := prog_1_method_30_code
def yX11_settles : MethodName := ⟨RX11, "settles", "(II)Z"⟩
abbrev cX11_isPatch : ByteArray := prog_1_method_31_code
def yX11_isPatch : MethodName := ⟨RX11, "isPatch", "(II)Z"⟩
abbrev cX11_isRoad : ByteArray := prog_1_method_32_code
def yX11_isRoad : MethodName := ⟨RX11, "isRoad", "(I)Z"⟩
abbrev cX11_isTone : ByteArray := prog_1_method_33_code
def yX11_isTone : MethodName := ⟨RX11, "isTone", "(I)Z"⟩
abbrev cX11_isHours : ByteArray := prog_1_method_34_code
def yX11_isHours : MethodName := ⟨RX11, "isHours", "(I)Z"⟩
abbrev cX11_isWithin : ByteArray := prog_1_method_35_code
def yX11_isWithin : MethodName := ⟨RX11, "isWithin", "(III)Z"⟩
abbrev cX11_commonDivisor : ByteArray := prog_1_method_36_code
def yX11_commonDivisor : MethodName := ⟨RX11, "commonDivisor", "(II)I"⟩
def RX12 : String := "LongSeatsModel"
def TX12 : u_T := fun k => match k with
  | 0 => ("LongSeatsModel", "length", "I", false)
  | 1 => ("LongSeatsModel", "text", "[I", true)
  | 2 => ("LongSeatsModel", "layerMany", "[I", true)
  | 3 => ("LongSeatsModel", "pieceMany", "[I", true)
  | 4 => ("LongSeatsModel", "pieces", "[I", true)
  | 5 => ("LongSeatsModel", "lets", "[I", true)
  | 6 => ("LongSeatsModel", "seatMany", "[I", true)
  | 7 => ("LongSeatsModel", "seats", "[I", true)
  | 8 => ("LongSeatsModel", "patchMany", "[I", true)
  | 9 => ("LongSeatsModel", "patches", "[I", true)
  | 10 => ("LongSeatsModel", "worn", "[I", true)
  | 11 => ("LongSeatsModel", "yearMany", "[I", true)
  | 12 => ("LongSeatsModel", "bodyMany", "I", false)
  | 13 => ("LongSeatsModel", "bodies", "[I", true)
  | 14 => ("LongSeatsModel", "hangs", "[I", true)
  | 15 => ("LongSeatsModel", "trialMany", "I", false)
  | 16 => ("LongSeatsModel", "said", "[I", true)
  | 17 => ("LongSeatsModel", "slack", "I", false)
  | 18 => ("LongSeatsModel", "mark", "I", false)
  | 19 => ("LongSeatsModel", "ease", "I", false)
  | 20 => ("LongSeatsModel", "roads", "[I", true)
  | 21 => ("LongSeatsModel", "at", "I", false)
  | 22 => ("LongSeatsModel", "told", "[I", true)
  | 23 => ("LongSeatsModel", "levelTop", "J", false)
  | 24 => ("LongSeatsModel", "levelLow", "J", false)
  | 25 => ("LongSeatsModel", "presses", "[I", true)
  | 26 => ("LongSeatsModel", "fitting", "[I", true)
  | 27 => ("LongSeatsModel", "stand", "[I", true)
  | 28 => ("LongSeatsModel", "bestStand", "[I", true)
  | _ => ("LongSeatsModel", "had", "[I", true)
def tyX12 : Nat → FieldType := fun k => match k with
  | 0 => .int
  | 1 => .array .int
  | 2 => .array .int
  | 3 => .array .int
  | 4 => .array .int
  | 5 => .array .int
  | 6 => .array .int
  | 7 => .array .int
  | 8 => .array .int
  | 9 => .array .int
  | 10 => .array .int
  | 11 => .array .int
  | 12 => .int
  | 13 => .array .int
  | 14 => .array .int
  | 15 => .int
  | 16 => .array .int
  | 17 => .int
  | 18 => .int
  | 19 => .int
  | 20 => .array .int
  | 21 => .int
  | 22 => .array .int
  | 23 => .long
  | 24 => .long
  | 25 => .array .int
  | 26 => .array .int
  | 27 => .array .int
  | 28 => .array .int
  | _ => .array .int
theorem nmX12 : ∀ a, a < 30 → ∀ b, b < 30 → a ≠ b → (TX12 a).2.1 ≠ (TX12 b).2.1 := by decide +kernel
theorem tyX12_ok : ∀ k, k < 30 → parseFieldDescriptor (TX12 k).2.2.1 = some (tyX12 k) := by decide +kernel
abbrev cX12_init : ByteArray := prog_14_method_1_code
def yX12_init : MethodName := ⟨RX12, "<init>", "()V"⟩
abbrev cX12_in : ByteArray := prog_14_method_2_code
def yX12_in : MethodName := ⟨RX12, "in", "(JJJ)Z"⟩
abbrev cX12_common : ByteArray := prog_14_method_3_code
def yX12_common : MethodName := ⟨RX12, "common", "(JJ)J"⟩
abbrev cX12_write : ByteArray := prog_14_method_4_code
def yX12_write : MethodName := ⟨RX12, "write", "(IJ)I"⟩
abbrev cX12_wipe : ByteArray := prog_14_method_5_code
def yX12_wipe : MethodName := ⟨RX12, "wipe", "()I"⟩
abbrev cX12_numbers : ByteArray := prog_14_method_6_code
def yX12_numbers : MethodName := ⟨RX12, "numbers", "()I"⟩
abbrev cX12_layer : ByteArray := prog_14_method_7_code
def yX12_layer : MethodName := ⟨RX12, "layer", "(I)Z"⟩
abbrev cX12_letting : ByteArray := prog_14_method_8_code
def yX12_letting : MethodName := ⟨RX12, "letting", "(I)Z"⟩
abbrev cX12_seat : ByteArray := prog_14_method_9_code
def yX12_seat : MethodName := ⟨RX12, "seat", "(I)Z"⟩
abbrev cX12_patch : ByteArray := prog_14_method_10_code
def yX12_patch : MethodName := ⟨RX12, "patch", "(I)Z"⟩
abbrev cX12_readAll : ByteArray := prog_14_method_11_code
def yX12_readAll : MethodName := ⟨RX12, "readAll", "()I"⟩
abbrev cX12_fault : ByteArray := prog_14_method_12_code
def yX12_fault : MethodName := ⟨RX12, "fault", "()I"⟩
abbrev cX12_lay : ByteArray := prog_14_method_13_code
def yX12_lay : MethodName := ⟨RX12, "lay", "()I"⟩
abbrev cX12_body : ByteArray := prog_14_method_14_code
def yX12_body : MethodName := ⟨RX12, "body", "(IIIIII)I"⟩
abbrev cX12_isBody : ByteArray := prog_14_method_15_code
def yX12_isBody : MethodName := ⟨RX12, "isBody", "(I)Z"⟩
abbrev cX12_isSeat : ByteArray := prog_14_method_16_code
def yX12_isSeat : MethodName := ⟨RX12, "isSeat", "(I)Z"⟩
abbrev cX12_isPatch : ByteArray := prog_14_method_17_code
def yX12_isPatch : MethodName := ⟨RX12, "isPatch", "(II)Z"⟩
abbrev cX12_hang : ByteArray := prog_14_method_18_code
def yX12_hang : MethodName := ⟨RX12, "hang", "(III)I"⟩
abbrev cX12_touchOf : ByteArray := prog_14_method_19_code
def yX12_touchOf : MethodName := ⟨RX12, "touchOf", "(III)I"⟩
abbrev cX12_layerOf : ByteArray := prog_14_method_20_code
def yX12_layerOf : MethodName := ⟨RX12, "layerOf", "(II)I"⟩
abbrev cX12_longOf : ByteArray := prog_14_method_21_code
def yX12_longOf : MethodName := ⟨RX12, "longOf", "(I)I"⟩
abbrev cX12_pushBy : ByteArray := prog_14_method_22_code
def yX12_pushBy : MethodName := ⟨RX12, "pushBy", "(IJJ)J"⟩
abbrev cX12_pushesAt : ByteArray := prog_14_method_23_code
def yX12_pushesAt : MethodName := ⟨RX12, "pushesAt", "(III)J"⟩
abbrev cX12_layLevel : ByteArray := prog_14_method_24_code
def yX12_layLevel : MethodName := ⟨RX12, "layLevel", "(II)V"⟩
abbrev cX12_level : ByteArray := prog_14_method_25_code
def yX12_level : MethodName := ⟨RX12, "level", "(III)I"⟩
abbrev cX12_squeezed : ByteArray := prog_14_method_26_code
def yX12_squeezed : MethodName := ⟨RX12, "squeezed", "(III)J"⟩
abbrev cX12_pushOf : ByteArray := prog_14_method_27_code
def yX12_pushOf : MethodName := ⟨RX12, "pushOf", "(III)J"⟩
abbrev cX12_push : ByteArray := prog_14_method_28_code
def yX12_push : MethodName := ⟨RX12, "push", "(IIII)I"⟩
abbrev cX12_bearsBy : ByteArray := prog_14_method_29_code
def yX12_bearsBy : MethodName := ⟨RX12, "bearsBy", "(III)I"⟩
abbrev cX12_bears : ByteArray := prog_14_method_30_code
def yX12_bears : MethodName := ⟨RX12, "bears", "(III)I"⟩
abbrev cX12_layPresses : ByteArray := prog_14_method_31_code
def yX12_layPresses : MethodName := ⟨RX12, "layPresses", "(II)V"⟩
abbrev cX12_press : ByteArray := prog_14_method_32_code
def yX12_press : MethodName := ⟨RX12, "press", "(III)I"⟩
abbrev cX12_slack : ByteArray := prog_14_method_33_code
def yX12_slack : MethodName := ⟨RX12, "slack", "(I)I"⟩
abbrev cX12_fitsAt : ByteArray := prog_14_method_34_code
def yX12_fitsAt : MethodName := ⟨RX12, "fitsAt", "(IIII)Z"⟩
abbrev cX12_fitsSome : ByteArray := prog_14_method_35_code
def yX12_fitsSome : MethodName := ⟨RX12, "fitsSome", "(II)Z"⟩
abbrev cX12_fits : ByteArray := prog_14_method_36_code
def yX12_fits : MethodName := ⟨RX12, "fits", "(IIII)I"⟩
abbrev cX12_people : ByteArray := prog_14_method_37_code
def yX12_people : MethodName := ⟨RX12, "people", "()I"⟩
abbrev cX12_layFitting : ByteArray := prog_14_method_38_code
def yX12_layFitting : MethodName := ⟨RX12, "layFitting", "()V"⟩
abbrev cX12_shareOf : ByteArray := prog_14_method_39_code
def yX12_shareOf : MethodName := ⟨RX12, "shareOf", "(I)I"⟩
abbrev cX12_share : ByteArray := prog_14_method_40_code
def yX12_share : MethodName := ⟨RX12, "share", "(II)I"⟩
abbrev cX12_setting : ByteArray := prog_14_method_41_code
def yX12_setting : MethodName := ⟨RX12, "setting", "(II)I"⟩
abbrev cX12_bits : ByteArray := prog_14_method_42_code
def yX12_bits : MethodName := ⟨RX12, "bits", "(I)I"⟩
abbrev cX12_fewest : ByteArray := prog_14_method_43_code
def yX12_fewest : MethodName := ⟨RX12, "fewest", "(I)I"⟩
abbrev cX12_law : ByteArray := prog_14_method_44_code
def yX12_law : MethodName := ⟨RX12, "law", "(II)I"⟩
abbrev cX12_hurts : ByteArray := prog_14_method_45_code
def yX12_hurts : MethodName := ⟨RX12, "hurts", "(I)I"⟩
abbrev cX12_hours : ByteArray := prog_14_method_46_code
def yX12_hours : MethodName := ⟨RX12, "hours", "(III)I"⟩
abbrev cX12_worst : ByteArray := prog_14_method_47_code
def yX12_worst : MethodName := ⟨RX12, "worst", "(III)I"⟩
abbrev cX12_stops : ByteArray := prog_14_method_48_code
def yX12_stops : MethodName := ⟨RX12, "stops", "(IIIII)I"⟩
abbrev cX12_isRoad : ByteArray := prog_14_method_49_code
def yX12_isRoad : MethodName := ⟨RX12, "isRoad", "(I)Z"⟩
abbrev cX12_road : ByteArray := prog_14_method_50_code
def yX12_road : MethodName := ⟨RX12, "road", "(III)I"⟩
abbrev cX12_throughOf : ByteArray := prog_14_method_51_code
def yX12_throughOf : MethodName := ⟨RX12, "throughOf", "(IIII)I"⟩
abbrev cX12_through : ByteArray := prog_14_method_52_code
def yX12_through : MethodName := ⟨RX12, "through", "(IIII)I"⟩
abbrev cX12_doseOf : ByteArray := prog_14_method_53_code
def yX12_doseOf : MethodName := ⟨RX12, "doseOf", "(IIII)J"⟩
abbrev cX12_dose : ByteArray := prog_14_method_54_code
def yX12_dose : MethodName := ⟨RX12, "dose", "(IIIIII)J"⟩
abbrev cX12_wear : ByteArray := prog_14_method_55_code
def yX12_wear : MethodName := ⟨RX12, "wear", "(III)V"⟩
abbrev cX12_years : ByteArray := prog_14_method_56_code
def yX12_years : MethodName := ⟨RX12, "years", "(IIII)I"⟩
abbrev cX12_worn : ByteArray := prog_14_method_57_code
def yX12_worn : MethodName := ⟨RX12, "worn", "(II)I"⟩
abbrev cX12_isPast : ByteArray := prog_14_method_58_code
def yX12_isPast : MethodName := ⟨RX12, "isPast", "(II)Z"⟩
abbrev cX12_until : ByteArray := prog_14_method_59_code
def yX12_until : MethodName := ⟨RX12, "until", "(IIII)I"⟩
abbrev cX12_trial : ByteArray := prog_14_method_60_code
def yX12_trial : MethodName := ⟨RX12, "trial", "(III)I"⟩
abbrev cX12_against : ByteArray := prog_14_method_61_code
def yX12_against : MethodName := ⟨RX12, "against", "(III)I"⟩
abbrev cX12_score : ByteArray := prog_14_method_62_code
def yX12_score : MethodName := ⟨RX12, "score", "(II)I"⟩
abbrev cX12_count : ByteArray := prog_14_method_63_code
def yX12_count : MethodName := ⟨RX12, "count", "(I)I"⟩
def RJ6 : String := "java/lang/Integer"
def TJ6 : u_T := fun k => match k with
  | _ => ("", "", "", false)
def tyJ6 : Nat → FieldType := fun k => match k with
  | _ => .int
theorem nmJ6 : ∀ a, a < 0 → ∀ b, b < 0 → a ≠ b → (TJ6 a).2.1 ≠ (TJ6 b).2.1 := by decide +kernel
theorem tyJ6_ok : ∀ k, k < 0 → parseFieldDescriptor (TJ6 k).2.2.1 = some (tyJ6 k) := by decide +kernel
abbrev cJ6_compare_7cf53 : ByteArray := prog_15_method_40_code
def yJ6_compare_7cf53 : MethodName := ⟨RJ6, "compare", "(II)I"⟩
abbrev cJ6_bitCount_0f7a4 : ByteArray := prog_15_method_49_code
def yJ6_bitCount_0f7a4 : MethodName := ⟨RJ6, "bitCount", "(I)I"⟩
def RJ9 : String := "java/lang/Math"
def TJ9 : u_T := fun k => match k with
  | _ => ("", "", "", false)
def tyJ9 : Nat → FieldType := fun k => match k with
  | _ => .int
theorem nmJ9 : ∀ a, a < 0 → ∀ b, b < 0 → a ≠ b → (TJ9 a).2.1 ≠ (TJ9 b).2.1 := by decide +kernel
theorem tyJ9_ok : ∀ k, k < 0 → parseFieldDescriptor (TJ9 k).2.2.1 = some (tyJ9 k) := by decide +kernel
abbrev cJ9_abs_0f7a4 : ByteArray := prog_16_method_59_code
def yJ9_abs_0f7a4 : MethodName := ⟨RJ9, "abs", "(I)I"⟩
abbrev cJ9_max_7cf53 : ByteArray := prog_16_method_65_code
def yJ9_max_7cf53 : MethodName := ⟨RJ9, "max", "(II)I"⟩
abbrev cJ9_min_7cf53 : ByteArray := prog_16_method_69_code
def yJ9_min_7cf53 : MethodName := ⟨RJ9, "min", "(II)I"⟩
def RL : String := "LongSeatsLaw"
abbrev cL_law : ByteArray := code
abbrev vwCl : List vw_C := [(RX0, TX0, 8), (RX1, TX1, 4), (RX2, TX2, 4), (RX3, TX3, 4), (RX4, TX4, 4), (RX5, TX5, 4), (RX6, TX6, 8), (RX7, TX7, 1), (RX8, TX8, 7), (RX9, TX9, 4), (RX10, TX10, 4), (RX11, TX11, 8), (RX12, TX12, 30)]
end
section
/-! THE PURE LAYER: values are integers, longs as integers, references as numbers of cells; a memory is four functions; every cell has a fixed kind by its number -/
abbrev PV : Type := Int ⊕ (Int ⊕ Option Nat)
abbrev vI (x : Int) : PV := Sum.inl x
abbrev vL (x : Int) : PV := Sum.inr (Sum.inl x)
abbrev vR (r : Option Nat) : PV := Sum.inr (Sum.inr r)
def inI (x : Int) : Prop := -2147483648 ≤ x ∧ x < 2147483648
def inL (x : Int) : Prop := -9223372036854775808 ≤ x ∧ x < 9223372036854775808
/-- cell number to address: the system's cells lie one behind another from G.1 on; number 1000 is the script -/
def ad (G : Nat × Nat) (o : Nat) : Nat := if o = 1000 then G.2 else G.1 + o
def pv (G : Nat × Nat) : PV → Value
  | .inl x => .int (Int32.ofInt x)
  | .inr (.inl x) => .long (Int64.ofInt x)
  | .inr (.inr none) => .null
  | .inr (.inr (some o)) => .ref (ad G o)
def okv : PV → Prop
  | .inl x => inI x
  | .inr (.inl x) => inL x
  | .inr (.inr _) => True
def isLg : PV → Bool
  | .inr (.inl _) => true
  | _ => false
/-- a memory: int slots, long slots, reference slots, the number of cells -/
abbrev Mm : Type := (Nat → Nat → Int) × (Nat → Nat → Int) × (Nat → Nat → Option Nat) × Nat
def up2 {α : Type} (f : Nat → Nat → α) (o k : Nat) (v : α) : Nat → Nat → α := fun a j => if a = o ∧ j = k then v else f a j
def up1 {α : Type} (f : Nat → Nat → α) (o : Nat) (v : α) : Nat → Nat → α := fun a j => if a = o then v else f a j
abbrev setI (M : Mm) (o k : Nat) (v : Int) : Mm := (up2 M.1 o k v, M.2.1, M.2.2.1, M.2.2.2)
abbrev setJ (M : Mm) (o k : Nat) (v : Int) : Mm := (M.1, up2 M.2.1 o k v, M.2.2.1, M.2.2.2)
abbrev setR (M : Mm) (o k : Nat) (v : Option Nat) : Mm := (M.1, M.2.1, up2 M.2.2.1 o k v, M.2.2.2)
abbrev newM (M : Mm) : Mm := (up1 M.1 M.2.2.2 0, up1 M.2.1 M.2.2.2 0, up1 M.2.2.1 M.2.2.2 none, M.2.2.2 + 1)
theorem up2_s {α : Type} (f : Nat → Nat → α) (o k : Nat) (v : α) : up2 f o k v o k = v := by simp [up2]
theorem up2_n {α : Type} (f : Nat → Nat → α) (o k : Nat) (v : α) {a j : Nat} (h : ¬ (a = o ∧ j = k)) : up2 f o k v a j = f a j := by simp [up2, h]
theorem up2_o {α : Type} (f : Nat → Nat → α) (o k : Nat) (v : α) {a j : Nat} (h : a ≠ o) : up2 f o k v a j = f a j := by simp [up2, h]
theorem up2_k {α : Type} (f : Nat → Nat → α) (o k : Nat) (v : α) {a j : Nat} (h : j ≠ k) : up2 f o k v a j = f a j := by simp [up2, h]
theorem up1_s {α : Type} (f : Nat → Nat → α) (o : Nat) (v : α) (j : Nat) : up1 f o v o j = v := by simp [up1]
theorem up1_o {α : Type} (f : Nat → Nat → α) (o : Nat) (v : α) {a j : Nat} (h : a ≠ o) : up1 f o v a j = f a j := by simp [up1, h]
/-- kinds: 0 to 12 objects by their class, 13 bytes, 14 ints, 15 to 18 rows of Body, Layer, Patch, Seat; and the size -/
def shPlan (o : Nat) : Nat × Nat :=
  if o = 0 then (5, 4) else if o = 1 then (16, 8) else if o = 2 then (18, 6)
  else if o < 35 then (if (o - 3) % 4 = 0 then (3, 4) else (14, 4))
  else if (o - 35) % 8 = 0 then (8, 7) else if (o - 35) % 8 = 1 then (17, 6) else (4, 4)
def shRef : List Nat := [300, 2, 16, 128, 64, 2, 48, 12, 216, 36, 6, 72, 72, 72, 16, 8, 6, 12, 3, 3, 6]
def SH (o : Nat) : Nat × Nat :=
  if o < 4 then (if o = 0 then (11, 8) else if o = 1 then (9, 4) else if o = 2 then (13, 300) else (14, 8))
  else if o < 87 then shPlan (o - 4)
  else if o < 170 then shPlan (o - 87)
  else if o < 173 then (if o = 170 then (1, 4) else if o = 171 then (15, 12) else (14, 6))
  else if o < 209 then (if (o - 173) % 3 = 0 then (0, 8) else (14, 6))
  else if o < 221 then (if o = 209 then (6, 8) else if o < 214 then (14, 6) else if o = 214 then (14, 24) else if o = 215 then (2, 4) else if o < 218 then (14, 3) else if o = 218 then (7, 1) else if o = 219 then (14, 16) else (10, 4))
  else if o = 221 then (12, 30)
  else (14, shRef.getD (o - 222) 0)
def SL : Nat → Nat
  | 0 => 0
  | n + 1 => SL n + (SH n).2
def TYk (k : Nat) : Nat → FieldType := match k with
  | 0 => tyX0 | 1 => tyX1 | 2 => tyX2 | 3 => tyX3 | 4 => tyX4 | 5 => tyX5 | 6 => tyX6 | 7 => tyX7 | 8 => tyX8 | 9 => tyX9 | 10 => tyX10 | 11 => tyX11 | _ => tyX12
def fvOf (k : Nat) (M : Mm) (o j : Nat) : PV := match TYk k j with
  | .int => vI (M.1 o j)
  | .long => vL (M.2.1 o j)
  | _ => vR (M.2.2.1 o j)
def cellOf (cy : Nat → ClassId) (G : Nat × Nat) (M : Mm) (o : Nat) : va_E :=
  if (SH o).1 < 13 then .inr ((SH o).1, (List.range (SH o).2).map (fun j => pv G (fvOf (SH o).1 M o j)))
  else if (SH o).1 < 15 then .inl (cy (SH o).1, (SH o).2, .inl (fun j => Int32.ofInt (M.1 o j)))
  else .inl (cy (SH o).1, (SH o).2, .inr (.inr (.inr (.inr (fun j => (M.2.2.1 o j).map (ad G))))))
def okM (M : Mm) : Prop := (∀ o j, inI (M.1 o j)) ∧ (∀ o j, inL (M.2.1 o j)) ∧ M.2.2.2 ≤ 1000
def Wd (D : va_G) (cy : Nat → ClassId) (G : Nat × Nat) (M : Mm) (H : Heap) : Prop := H.size = G.1 + M.2.2.2 ∧ (∀ o, o < M.2.2.2 → va_at D vwCl (G.1 + o, cellOf cy G M o) H) ∧ okM M
-- numbers
theorem i32t {x : Int} (h : inI x) : (Int32.ofInt x).toInt = x := by
  obtain ⟨h1, h2⟩ := h
  rw [Int32.toInt_ofInt]
  exact Int.bmod_eq_of_le (by simpa using h1) (by simpa using h2)
theorem i64t {x : Int} (h : inL x) : (Int64.ofInt x).toInt = x := by
  obtain ⟨h1, h2⟩ := h
  rw [Int64.toInt_ofInt]
  exact Int.bmod_eq_of_le (by simpa using h1) (by simpa using h2)
theorem i32o (x : Int32) : Int32.ofInt x.toInt = x := Int32.ofInt_toInt x
theorem i64o (x : Int64) : Int64.ofInt x.toInt = x := Int64.ofInt_toInt x
theorem i32in (x : Int32) : inI x.toInt := ⟨by have := Int32.le_toInt x; simpa using this, by have := Int32.toInt_lt x; simpa using this⟩
theorem i64in (x : Int64) : inL x.toInt := ⟨by have := Int64.le_toInt x; simpa using this, by have := Int64.toInt_lt x; simpa using this⟩
theorem i32lt {x y : Int} (hx : inI x) (hy : inI y) : Int32.ofInt x < Int32.ofInt y ↔ x < y := by rw [Int32.lt_iff_toInt_lt, i32t hx, i32t hy]
theorem i32le {x y : Int} (hx : inI x) (hy : inI y) : Int32.ofInt x ≤ Int32.ofInt y ↔ x ≤ y := by rw [Int32.le_iff_toInt_le, i32t hx, i32t hy]
theorem i32eq {x y : Int} (hx : inI x) (hy : inI y) : Int32.ofInt x = Int32.ofInt y ↔ x = y := ⟨fun h => by have := congrArg Int32.toInt h; rwa [i32t hx, i32t hy] at this, fun h => by rw [h]⟩
theorem i64lt {x y : Int} (hx : inL x) (hy : inL y) : Int64.ofInt x < Int64.ofInt y ↔ x < y := by rw [Int64.lt_iff_toInt_lt, i64t hx, i64t hy]
theorem i64le {x y : Int} (hx : inL x) (hy : inL y) : Int64.ofInt x ≤ Int64.ofInt y ↔ x ≤ y := by rw [Int64.le_iff_toInt_le, i64t hx, i64t hy]
theorem i64eq {x y : Int} (hx : inL x) (hy : inL y) : Int64.ofInt x = Int64.ofInt y ↔ x = y := ⟨fun h => by have := congrArg Int64.toInt h; rwa [i64t hx, i64t hy] at this, fun h => by rw [h]⟩
theorem in0 : inI 0 := by unfold inI; omega
theorem in0l : inL 0 := by unfold inL; omega
theorem i320 : Int32.ofInt 0 = 0 := rfl
theorem i640 : Int64.ofInt 0 = 0 := rfl
theorem i32add (x y : Int) : Int32.ofInt x + Int32.ofInt y = Int32.ofInt (x + y) := (Int32.ofInt_add x y).symm
theorem i32sub (x y : Int) : Int32.ofInt x - Int32.ofInt y = Int32.ofInt (x - y) := (Int32.ofInt_sub x y).symm
theorem i32mul (x y : Int) : Int32.ofInt x * Int32.ofInt y = Int32.ofInt (x * y) := (Int32.ofInt_mul x y).symm
theorem i32neg (x : Int) : -Int32.ofInt x = Int32.ofInt (-x) := (Int32.ofInt_neg x).symm
theorem i64add (x y : Int) : Int64.ofInt x + Int64.ofInt y = Int64.ofInt (x + y) := (Int64.ofInt_add x y).symm
theorem i64sub (x y : Int) : Int64.ofInt x - Int64.ofInt y = Int64.ofInt (x - y) := (Int64.ofInt_sub x y).symm
theorem i64mul (x y : Int) : Int64.ofInt x * Int64.ofInt y = Int64.ofInt (x * y) := (Int64.ofInt_mul x y).symm
theorem i64neg (x : Int) : -Int64.ofInt x = Int64.ofInt (-x) := (Int64.ofInt_neg x).symm
theorem i32div {x y : Int} (hx : inI x) (hy : inI y) (h : inI (x.tdiv y)) : Int32.ofInt x / Int32.ofInt y = Int32.ofInt (x.tdiv y) := by
  apply Int32.toInt_inj.mp
  rw [Int32.toInt_div, i32t hx, i32t hy, i32t h]
  exact Int.bmod_eq_of_le (by simpa using h.1) (by simpa using h.2)
theorem i64div {x y : Int} (hx : inL x) (hy : inL y) (h : inL (x.tdiv y)) : Int64.ofInt x / Int64.ofInt y = Int64.ofInt (x.tdiv y) := by
  apply Int64.toInt_inj.mp
  rw [Int64.toInt_div, i64t hx, i64t hy, i64t h]
  exact Int.bmod_eq_of_le (by simpa using h.1) (by simpa using h.2)
theorem i32rem {x y : Int} (hx : inI x) (hy : inI y) (h : inI (x.tdiv y)) : Int32.ofInt x - Int32.ofInt x / Int32.ofInt y * Int32.ofInt y = Int32.ofInt (x.tmod y) := by
  rw [i32div hx hy h, i32mul, i32sub, Int.tmod_def, Int.mul_comm]
theorem i64rem {x y : Int} (hx : inL x) (hy : inL y) (h : inL (x.tdiv y)) : Int64.ofInt x - Int64.ofInt x / Int64.ofInt y * Int64.ofInt y = Int64.ofInt (x.tmod y) := by
  rw [i64div hx hy h, i64mul, i64sub, Int.tmod_def, Int.mul_comm]
theorem i2lt {x : Int} (hx : inI x) : (Int32.ofInt x).toInt64 = Int64.ofInt x := by
  apply Int64.toInt_inj.mp
  rw [Int32.toInt_toInt64, i32t hx, i64t ⟨by have := hx.1; omega, by have := hx.2; omega⟩]
theorem clampt {x : Int} (h0 : 0 ≤ x) (hx : inI x) : (Int32.ofInt x).toNatClampNeg = x.toNat := by
  unfold Int32.toNatClampNeg
  rw [i32t hx]
end
section
/-! THE TABLES' WORDS AND THE JUDGEMENT: WW is the kit's W over the pure layer -/
def lwG : List Cond := lw_tbl.filter goodWord
def isNest : Cond → Bool
  | .methodLinkNest _ _ _ _ => true
  | _ => false
def nestL : List Cond := lw_tbl.filter isNest
theorem lwG_in {w : Cond} (h : w ∈ lw_tbl) (g : goodWord w = true) : w ∈ lwG := List.mem_filter.mpr ⟨h, g⟩
theorem lwG_good {w : Cond} (h : w ∈ lwG) : goodWord w = true := (List.mem_filter.mp h).2
theorem lwG_1 {w : Cond} {i : Nat} (h : tables_1_1[i]? = some w) (g : goodWord w = true) : w ∈ lwG := lwG_in (List.mem_append_right _ (List.mem_append_left _ (List.mem_of_getElem? h))) g
theorem lwG_2 {w : Cond} {i : Nat} (h : tables_1_2[i]? = some w) (g : goodWord w = true) : w ∈ lwG := lwG_in (List.mem_append_right _ (List.mem_append_right _ (List.mem_append_left _ (List.mem_of_getElem? h)))) g
theorem lwG_3 {w : Cond} {i : Nat} (h : tables_1_3[i]? = some w) (g : goodWord w = true) : w ∈ lwG := lwG_in (List.mem_append_right _ (List.mem_append_right _ (List.mem_append_right _ (List.mem_append_left _ (List.mem_of_getElem? h))))) g
theorem lwG_4 {w : Cond} {i : Nat} (h : tables_1_4[i]? = some w) (g : goodWord w = true) : w ∈ lwG := lwG_in (List.mem_append_right _ (List.mem_append_right _ (List.mem_append_right _ (List.mem_append_right _ (List.mem_append_left _ (List.mem_of_getElem? h)))))) g
theorem lwG_5 {w : Cond} {i : Nat} (h : tables_1_5[i]? = some w) (g : goodWord w = true) : w ∈ lwG := lwG_in (List.mem_append_right _ (List.mem_append_right _ (List.mem_append_right _ (List.mem_append_right _ (List.mem_append_right _ (List.mem_of_getElem? h)))))) g
theorem lwG_p {w : Cond} {i : Nat} (h : (k2_sels lw_privs)[i]? = some w) (g : goodWord w = true) : w ∈ lwG := lwG_in (List.mem_append_left _ (List.mem_of_getElem? h)) g
def aTys (cy : Nat → ClassId) : List (ClassId × FieldType) := [(cy 13, .byte), (cy 14, .int), (cy 15, .object RX0), (cy 16, .object RX3), (cy 17, .object RX4), (cy 18, .object RX8)]
def aoL : List String := [RX0, RX3, RX4, RX8]
/-- what the machine's tables say, for the whole system -/
def KW (D : va_G) (cy : Nat → ClassId) (U : State) : Prop := va_K D vwCl (aTys cy) U ∧ (∀ w ∈ nestL, va_Nw w U) ∧ ∀ C ∈ aoL, va_AO C U
theorem KW.warm {D : va_G} {cy : Nat → ClassId} {s U : State} (hW : s.WarmedH U.vm) (h : KW D cy s) : KW D cy U := by
  refine ⟨va_K.moved hW.alike h.1, fun w hw => ?_, fun C hC => va_AO.moved hW.alike (h.2.2 C hC)⟩
  have hn := (List.mem_filter.mp hw).2
  have h1 := h.2.1 w hw
  cases w <;> first | exact va_Nw.warmM hW h1 | cases hn
theorem KW.calling {D : va_G} {cy : Nat → ClassId} {U : State} {g : JFrame} {mk : MethodId} {a : Array Value} (h : KW D cy U) : KW D cy (U.calling g mk a) := by
  refine ⟨va_K.moved (u := U) (U := U.calling g mk a) (Vm.Alike.refl U.vm) h.1, fun w hw => ?_, fun C hC => va_AO.moved (u := U) (U := U.calling g mk a) (Vm.Alike.refl U.vm) (h.2.2 C hC)⟩
  have hn := (List.mem_filter.mp hw).2
  have h1 := h.2.1 w hw
  cases w <;> first | exact va_Nw.same rfl rfl h1 | cases hn
def Rk (k : Nat) : String := match k with
  | 0 => RX0 | 1 => RX1 | 2 => RX2 | 3 => RX3 | 4 => RX4 | 5 => RX5 | 6 => RX6 | 7 => RX7 | 8 => RX8 | 9 => RX9 | 10 => RX10 | 11 => RX11 | _ => RX12
def Tk (k : Nat) : u_T := match k with
  | 0 => TX0 | 1 => TX1 | 2 => TX2 | 3 => TX3 | 4 => TX4 | 5 => TX5 | 6 => TX6 | 7 => TX7 | 8 => TX8 | 9 => TX9 | 10 => TX10 | 11 => TX11 | _ => TX12
def Nk (k : Nat) : Nat := match k with
  | 0 => 8 | 1 => 4 | 2 => 4 | 3 => 4 | 4 => 4 | 5 => 4 | 6 => 8 | 7 => 1 | 8 => 7 | 9 => 4 | 10 => 4 | 11 => 8 | _ => 30
set_option maxRecDepth 100000 in
theorem inG0 : ∀ w ∈ u_ws RX0 TX0 8, w ∈ lw_tbl ∧ goodWord w = true := by decide +kernel
set_option maxRecDepth 100000 in
theorem inG1 : ∀ w ∈ u_ws RX1 TX1 4, w ∈ lw_tbl ∧ goodWord w = true := by decide +kernel
set_option maxRecDepth 100000 in
theorem inG2 : ∀ w ∈ u_ws RX2 TX2 4, w ∈ lw_tbl ∧ goodWord w = true := by decide +kernel
set_option maxRecDepth 100000 in
theorem inG3 : ∀ w ∈ u_ws RX3 TX3 4, w ∈ lw_tbl ∧ goodWord w = true := by decide +kernel
set_option maxRecDepth 100000 in
theorem inG4 : ∀ w ∈ u_ws RX4 TX4 4, w ∈ lw_tbl ∧ goodWord w = true := by decide +kernel
set_option maxRecDepth 100000 in
theorem inG5 : ∀ w ∈ u_ws RX5 TX5 4, w ∈ lw_tbl ∧ goodWord w = true := by decide +kernel
set_option maxRecDepth 100000 in
theorem inG6 : ∀ w ∈ u_ws RX6 TX6 8, w ∈ lw_tbl ∧ goodWord w = true := by decide +kernel
set_option maxRecDepth 100000 in
theorem inG7 : ∀ w ∈ u_ws RX7 TX7 1, w ∈ lw_tbl ∧ goodWord w = true := by decide +kernel
set_option maxRecDepth 100000 in
theorem inG8 : ∀ w ∈ u_ws RX8 TX8 7, w ∈ lw_tbl ∧ goodWord w = true := by decide +kernel
set_option maxRecDepth 100000 in
theorem inG9 : ∀ w ∈ u_ws RX9 TX9 4, w ∈ lw_tbl ∧ goodWord w = true := by decide +kernel
set_option maxRecDepth 100000 in
theorem inG10 : ∀ w ∈ u_ws RX10 TX10 4, w ∈ lw_tbl ∧ goodWord w = true := by decide +kernel
set_option maxRecDepth 100000 in
theorem inG11 : ∀ w ∈ u_ws RX11 TX11 8, w ∈ lw_tbl ∧ goodWord w = true := by decide +kernel
set_option maxRecDepth 100000 in
theorem inG12 : ∀ w ∈ u_ws RX12 TX12 30, w ∈ lw_tbl ∧ goodWord w = true := by decide +kernel
theorem clOK (k : Nat) (hk : k < 13) : vwCl[k]? = some (Rk k, Tk k, Nk k) ∧ (∀ w ∈ u_ws (Rk k) (Tk k) (Nk k), w ∈ lwG) ∧ (∀ j, j < Nk k → parseFieldDescriptor (Tk k j).2.2.1 = some (TYk k j)) ∧ (∀ a, a < Nk k → ∀ b, b < Nk k → a ≠ b → (Tk k a).2.1 ≠ (Tk k b).2.1) := by
  match k, hk with
  | 0, _ => exact ⟨rfl, fun w h => lwG_in (inG0 w h).1 (inG0 w h).2, tyX0_ok, nmX0⟩
  | 1, _ => exact ⟨rfl, fun w h => lwG_in (inG1 w h).1 (inG1 w h).2, tyX1_ok, nmX1⟩
  | 2, _ => exact ⟨rfl, fun w h => lwG_in (inG2 w h).1 (inG2 w h).2, tyX2_ok, nmX2⟩
  | 3, _ => exact ⟨rfl, fun w h => lwG_in (inG3 w h).1 (inG3 w h).2, tyX3_ok, nmX3⟩
  | 4, _ => exact ⟨rfl, fun w h => lwG_in (inG4 w h).1 (inG4 w h).2, tyX4_ok, nmX4⟩
  | 5, _ => exact ⟨rfl, fun w h => lwG_in (inG5 w h).1 (inG5 w h).2, tyX5_ok, nmX5⟩
  | 6, _ => exact ⟨rfl, fun w h => lwG_in (inG6 w h).1 (inG6 w h).2, tyX6_ok, nmX6⟩
  | 7, _ => exact ⟨rfl, fun w h => lwG_in (inG7 w h).1 (inG7 w h).2, tyX7_ok, nmX7⟩
  | 8, _ => exact ⟨rfl, fun w h => lwG_in (inG8 w h).1 (inG8 w h).2, tyX8_ok, nmX8⟩
  | 9, _ => exact ⟨rfl, fun w h => lwG_in (inG9 w h).1 (inG9 w h).2, tyX9_ok, nmX9⟩
  | 10, _ => exact ⟨rfl, fun w h => lwG_in (inG10 w h).1 (inG10 w h).2, tyX10_ok, nmX10⟩
  | 11, _ => exact ⟨rfl, fun w h => lwG_in (inG11 w h).1 (inG11 w h).2, tyX11_ok, nmX11⟩
  | 12, _ => exact ⟨rfl, fun w h => lwG_in (inG12 w h).1 (inG12 w h).2, tyX12_ok, nmX12⟩
  | k + 13, hk => exact absurd hk (by omega)
end
section
/-! THE JUDGEMENT, and what a memory's change does to the heap's picture -/
theorem shBig {o : Nat} (h : 222 ≤ o) : SH o = (14, shRef.getD (o - 222) 0) := by
  unfold SH
  rw [if_neg (by omega), if_neg (by omega), if_neg (by omega), if_neg (by omega), if_neg (by omega), if_neg (by omega), if_neg (by omega)]
theorem shSmall : ∀ o, o < 222 → (SH o).1 < 13 → (SH o).2 = Nk (SH o).1 := by decide +kernel
theorem shN (o : Nat) (h : (SH o).1 < 13) : (SH o).2 = Nk (SH o).1 := by
  by_cases ho : o < 222
  · exact shSmall o ho h
  · rw [shBig (by omega)] at h
    exact absurd h (by show ¬ 14 < 13; omega)
theorem ad_lt {G : Nat × Nat} {o : Nat} (h : o < 1000) : ad G o = G.1 + o := if_neg (by omega)
theorem cellO {cy : Nat → ClassId} {G : Nat × Nat} {M : Mm} {o k n : Nat} (h : SH o = (k, n)) (hk : k < 13) : cellOf cy G M o = .inr (k, (List.range n).map (fun j => pv G (fvOf k M o j))) := by simp [cellOf, h, hk]
theorem cellI {cy : Nat → ClassId} {G : Nat × Nat} {M : Mm} {o k n : Nat} (h : SH o = (k, n)) (hk : 13 ≤ k) (hk2 : k < 15) : cellOf cy G M o = .inl (cy k, n, .inl (fun j => Int32.ofInt (M.1 o j))) := by
  have : ¬ k < 13 := by omega
  simp [cellOf, h, hk2, this]
theorem cellR {cy : Nat → ClassId} {G : Nat × Nat} {M : Mm} {o k n : Nat} (h : SH o = (k, n)) (hk : 15 ≤ k) : cellOf cy G M o = .inl (cy k, n, .inr (.inr (.inr (.inr (fun j => (M.2.2.1 o j).map (ad G)))))) := by
  have h1 : ¬ k < 13 := by omega
  have h2 : ¬ k < 15 := by omega
  simp [cellOf, h, h1, h2]
theorem cell_congr {cy : Nat → ClassId} {G : Nat × Nat} {M M' : Mm} {o : Nat} (h1 : ∀ j, M'.1 o j = M.1 o j) (h2 : ∀ j, M'.2.1 o j = M.2.1 o j) (h3 : ∀ j, M'.2.2.1 o j = M.2.2.1 o j) : cellOf cy G M' o = cellOf cy G M o := by
  have e : ∀ k j, fvOf k M' o j = fvOf k M o j := fun k j => by unfold fvOf; rw [h1, h2, h3]
  unfold cellOf
  simp only [e, h1, h3]
def fsOf (G : Nat × Nat) (k n : Nat) (M : Mm) (o : Nat) : List Value := (List.range n).map (fun j => pv G (fvOf k M o j))
theorem fsOf_get {G : Nat × Nat} {k n : Nat} {M : Mm} {o j : Nat} (hj : j < n) : (fsOf G k n M o)[j]? = some (pv G (fvOf k M o j)) := by simp [fsOf, hj]
theorem fsOf_len {G : Nat × Nat} {k n : Nat} {M : Mm} {o : Nat} : (fsOf G k n M o).length = n := by simp [fsOf]
/-- a value of a field's type -/
def tyv (t : FieldType) (v : PV) : Prop := match t with
  | .int => ∃ x, v = vI x
  | .long => ∃ x, v = vL x
  | .object _ => ∃ r, v = vR r
  | .array _ => ∃ r, v = vR r
  | _ => False
def stF (M : Mm) (o j : Nat) : PV → Mm
  | .inl x => setI M o j x
  | .inr (.inl x) => setJ M o j x
  | .inr (.inr r) => setR M o j r
theorem fv_st {k : Nat} {M : Mm} {o j : Nat} {v : PV} (hv : tyv (TYk k j) v) (i : Nat) : fvOf k (stF M o j v) o i = if i = j then v else fvOf k M o i := by
  by_cases hi : i = j
  · subst hi
    rw [if_pos rfl]
    unfold fvOf
    cases ht : TYk k i <;> rw [ht] at hv <;> first | (exact absurd hv id) | (obtain ⟨x, rfl⟩ := hv; simp [stF, setI, setJ, setR, up2_s])
  · rw [if_neg hi]
    unfold fvOf
    rcases v with x | x | x <;> simp [stF, setI, setJ, setR, up2_k _ _ _ _ hi]
theorem fsOf_set {G : Nat × Nat} {k n : Nat} {M : Mm} {o j : Nat} {v : PV} (hv : tyv (TYk k j) v) : (fsOf G k n M o).set j (pv G v) = fsOf G k n (stF M o j v) o := by
  apply List.ext_getElem?
  intro i
  by_cases hi : i < n
  · rw [fsOf_get hi, fv_st hv, List.getElem?_set, fsOf_get hi, fsOf_len]
    by_cases hj : j = i
    · subst hj
      simp [hi]
    · have : ¬ i = j := fun q => hj q.symm
      simp [hj, this]
  · rw [List.getElem?_eq_none (by rw [List.length_set, fsOf_len]; omega), List.getElem?_eq_none (by rw [fsOf_len]; omega)]
theorem st_other {M : Mm} {o j : Nat} {v : PV} {a : Nat} (h : a ≠ o) : (∀ i, (stF M o j v).1 a i = M.1 a i) ∧ (∀ i, (stF M o j v).2.1 a i = M.2.1 a i) ∧ ∀ i, (stF M o j v).2.2.1 a i = M.2.2.1 a i := by
  rcases v with x | x | x <;> simp [stF, setI, setJ, setR, up2_o _ _ _ _ h]
theorem st_n {M : Mm} {o j : Nat} {v : PV} : (stF M o j v).2.2.2 = M.2.2.2 := by rcases v with x | x | x <;> rfl
theorem st_ok {M : Mm} {o j : Nat} {v : PV} (h : okM M) (hv : okv v) : okM (stF M o j v) := by
  obtain ⟨h1, h2, h3⟩ := h
  have e : ∀ {P : Int → Prop} {f : Nat → Nat → Int} {x : Int}, (∀ a b, P (f a b)) → P x → ∀ a b, P (up2 f o j x a b) := by
    intro P f x hf hx a b
    unfold up2
    split
    · exact hx
    · exact hf a b
  rcases v with x | x | x
  · exact ⟨e h1 hv, h2, h3⟩
  · exact ⟨h1, e h2 hv, h3⟩
  · exact ⟨h1, h2, h3⟩
theorem Wd.st {D : va_G} {cy : Nat → ClassId} {G : Nat × Nat} {M : Mm} {H H' : Heap} {o j : Nat} {v : PV} (h : Wd D cy G M H) (ho : o < M.2.2.2) (hv : okv v) (he : va_at D vwCl (G.1 + o, cellOf cy G (stF M o j v) o) H') (hz : H'.size = H.size) (oq : ∀ q : Nat, q ≠ G.1 + o → H'[q]? = H[q]?) : Wd D cy G (stF M o j v) H' := by
  refine ⟨by rw [hz, h.1, st_n], fun a ha => ?_, st_ok h.2.2 hv⟩
  rw [st_n] at ha
  by_cases hao : a = o
  · subst hao; exact he
  · obtain ⟨e1, e2, e3⟩ := st_other (M := M) (j := j) (v := v) hao
    rw [cell_congr e1 e2 e3]
    exact (h.2.1 a ha).kept (oq _ (by show ¬ G.1 + a = G.1 + o; omega))
theorem Wd.one {D : va_G} {cy : Nat → ClassId} {G : Nat × Nat} {M : Mm} {H : Heap} {o : Nat} (h : Wd D cy G M H) (ho : o < M.2.2.2) : va_P D vwCl [(ad G o, cellOf cy G M o)] H := by
  intro k q hq
  have hk : k = 0 := by
    have := (List.getElem?_eq_some_iff.mp hq).1
    simp at this; exact this
  subst hk
  cases hq
  rw [ad_lt (by have := h.2.2.2.2; omega)]
  exact h.2.1 o ho
theorem Wd.lt {D : va_G} {cy : Nat → ClassId} {G : Nat × Nat} {M : Mm} {H : Heap} {o : Nat} (h : Wd D cy G M H) (ho : o < M.2.2.2) : ad G o = G.1 + o := ad_lt (by have := h.2.2.2.2; omega)
theorem new_ok {M : Mm} (h : okM M) (hn : M.2.2.2 < 1000) : okM (newM M) := by
  obtain ⟨h1, h2, h3⟩ := h
  refine ⟨fun a b => ?_, fun a b => ?_, hn⟩
  · show inI (up1 _ _ _ a b)
    unfold up1
    split
    · exact in0
    · exact h1 a b
  · show inL (up1 _ _ _ a b)
    unfold up1
    split
    · exact in0l
    · exact h2 a b
theorem Wd.new {D : va_G} {cy : Nat → ClassId} {G : Nat × Nat} {M : Mm} {H H' : Heap} (h : Wd D cy G M H) (hn : M.2.2.2 < 1000) (he : va_at D vwCl (G.1 + M.2.2.2, cellOf cy G (newM M) M.2.2.2) H') (hz : H'.size = H.size + 1) (oq : ∀ q : Nat, q < H.size → H'[q]? = H[q]?) : Wd D cy G (newM M) H' := by
  refine ⟨by rw [hz, h.1]; rfl, fun a ha => ?_, new_ok h.2.2 hn⟩
  have ha : a < M.2.2.2 + 1 := ha
  by_cases hao : a = M.2.2.2
  · subst hao; exact he
  · rw [cell_congr (M := M) (fun j => up1_o _ _ _ hao) (fun j => up1_o _ _ _ hao) (fun j => up1_o _ _ _ hao)]
    exact (h.2.1 a (by omega)).kept (oq _ (by show G.1 + a < H.size; rw [h.1]; omega))
/-- the method stands: its code, its tables, its own start -/
def Cx (p : Program) (s : State) (m : MethodId) (args : Array Value) (meth : Method) (c : Code) (cc : ByteArray) (nL : Nat) (own : String) (D : va_G) (cy : Nat → ClassId) (G : Nat × Nat) (n0 : Nat) : Prop :=
  p.tables.exec = Jvm.exec ∧ c.code = cc ∧ c.maxLocals = nL ∧ s.vm.findClass own = some m.cls ∧ (∀ w ∈ lwG, w.before args s = true) ∧ KW D cy s ∧ meth.locks = false ∧ s.heap.size = G.1 + n0
/-- the kit's W over the pure layer -/
def WW (p : Program) (l : Launch) (e : Env) (R : Room) (s : State) (m : MethodId) (args : Array Value) (below : List Frame) (meth : Method) (c : Code) (Q : State → Prop) (nL : Nat) (D : va_G) (cy : Nat → ClassId) (G : Nat × Nat) (n0 : Nat) (pc : Nat) (L : List (Nat × PV)) (st : List PV) (M : Mm) : Prop :=
  n0 ≤ M.2.2.2 → (∀ q ∈ L, okv q.2) → (∀ v ∈ st, okv v) → ∀ (H : Heap) (locs : List Loc) (ls : Array Slot), Wd D cy G M H → va_S (fun q => G.1 ≤ q) s.heap H locs → lv_has ls nL (L.map (fun q => (q.1, pv G q.2))) → W p l e R s m args below meth c H locs (M.2.2.2 - n0) (SL M.2.2.2 - SL n0) Q (F0 m pc ls (st.map (pv G)))
section MEM
variable {p : Program} {l : Launch} {e : Env} {R : Room} {s : State} {m : MethodId} {args : Array Value} {below : List Frame} {meth : Method} {c : Code} {Q : State → Prop} {cc : ByteArray} {nL : Nat} {own : String} {D : va_G} {cy : Nat → ClassId} {G : Nat × Nat} {n0 pc : Nat} {L : List (Nat × PV)} {st : List PV} {M : Mm}
theorem w_get {idx o ci j : Nat} (C : Cx p s m args meth c cc nL own D cy G n0) (hd : decode cc pc = .ok (.getfield idx, 3)) (hl : Cond.fieldLink own idx (Tk ci j).1 (Tk ci j).2.1 (Tk ci j).2.2.1 ∈ lwG) (ho : o < M.2.2.2) (hs : (SH o).1 = ci) (hc : ci < 13) (hj : j < Nk ci)
    (k : WW p l e R s m args below meth c Q nL D cy G n0 (pc + 3) L (fvOf ci M o j :: st) M) : WW p l e R s m args below meth c Q nL D cy G n0 pc L (vR (some o) :: st) M := by
  intro h0 hL hst H locs ls hW hS hls
  obtain ⟨hx, hb, hml, hown, hts, hK, hlk, hsz⟩ := C
  obtain ⟨c1, c2, c3, c4⟩ := clOK ci hc
  have hn : (SH o).2 = Nk ci := by rw [← hs]; exact shN o (by omega)
  have hcell : cellOf cy G M o = .inr (ci, fsOf G ci (Nk ci) M o) := cellO (by rw [← hs, ← shN o (by omega)]) hc
  have hP := hW.one ho
  rw [hcell] at hP
  refine va_get (D := D) (ci := ci) (C := Rk ci) (T := Tk ci) (N := Nk ci) hx hb hts c2 hown hK.1 hP 0 rfl c1 j hj (hts _ hl) (fun _ h9 => h9) (fsOf_get hj) hd ?_
  refine k h0 hL (fun v hv => ?_) H locs ls hW hS hls
  rcases List.mem_cons.mp hv with rfl | hv
  · unfold fvOf
    split
    · exact hW.2.2.1 _ _
    · exact hW.2.2.2.1 _ _
    · trivial
  · exact hst v (List.mem_cons_of_mem _ hv)
theorem narv {t : FieldType} {v : PV} (h : tyv t v) : narrow t (pv G v) = pv G v ∧ fits t (pv G v) = true := by
  cases t <;> first | exact absurd h id | skip
  all_goals (obtain ⟨x, rfl⟩ := h)
  all_goals first | exact ⟨rfl, rfl⟩ | (cases x <;> exact ⟨rfl, rfl⟩)
theorem w_put {idx o ci j : Nat} {v : PV} (C : Cx p s m args meth c cc nL own D cy G n0) (hd : decode cc pc = .ok (.putfield idx, 3)) (hl : Cond.fieldLink own idx (Tk ci j).1 (Tk ci j).2.1 (Tk ci j).2.2.1 ∈ lwG) (ho : o < M.2.2.2) (hs : (SH o).1 = ci) (hc : ci < 13) (hj : j < Nk ci) (hv : tyv (TYk ci j) v) (hfin : (Tk ci j).2.2.2 = false ∨ (meth.name = "<init>" ∧ (Tk ci j).1 = own))
    (k : WW p l e R s m args below meth c Q nL D cy G n0 (pc + 3) L st (stF M o j v)) : WW p l e R s m args below meth c Q nL D cy G n0 pc L (v :: vR (some o) :: st) M := by
  intro h0 hL hst H locs ls hW hS hls
  obtain ⟨hx, hb, hml, hown, hts, hK, hlk, hsz⟩ := C
  obtain ⟨c1, c2, c3, c4⟩ := clOK ci hc
  have hcell : ∀ M : Mm, cellOf cy G M o = .inr (ci, fsOf G ci (Nk ci) M o) := fun M => cellO (by rw [← hs, ← shN o (by omega)]) hc
  have hP := hW.one ho
  rw [hcell] at hP
  have had := hW.lt ho
  have hap := va_apart (own := own) hts c2 (TYk ci) c3 c4 hK.1 c1
  obtain ⟨r, h1, cell, q1, q2, q3, q4⟩ := hP 0 _ rfl
  have hr : r = (Rk ci, Tk ci, Nk ci) := Option.some.inj (h1.symm.trans c1)
  subst hr
  obtain ⟨hSl, hfc, kC, hkC, hkind⟩ := hK.1.1 ci _ c1
  obtain ⟨cf, kf, fi, f, hi, hsl⟩ := hSl j hj
  have hst' := (u_facts hfc hkC (u_lays hts c2 hj) hi).1
  have hlay := hts _ (c2 _ (u_in_lay hj))
  obtain ⟨hn1, hn2⟩ := narv (G := G) hv
  have fin : ∀ H' : Heap, H'[ad G o]? = some (cell.setSlot f.slot (pv G v)) → H'.size = H.size → (∀ q, q ≠ ad G o → H'[q]? = H[q]?) → W p l e R s m args below meth c H' (locs ++ [⟨ad G o, f.slot⟩]) (M.2.2.2 - n0) (SL M.2.2.2 - SL n0) Q (F0 m (pc + 3) ls (st.map (pv G))) := by
    intro H' e1 e2 e3
    rw [hsl] at e1
    have hnew : va_at D vwCl (G.1 + o, cellOf cy G (stF M o j v) o) H' := by
      rw [hcell, ← fsOf_set hv, ← had]
      exact ⟨_, c1, t_OB.to (V := updV (vp_V (fsOf G ci (Nk ci) M o)) j (pv G v)) ⟨_, e1, q2, q3, t_set q4 hap hj (pv G v)⟩ (fun i _ => vp_updV_set (by rw [fsOf_len]; exact hj) (pv G v) i)⟩
    have hW' := hW.st ho (hst v List.mem_cons_self) hnew e2 (fun q hq => e3 q (by rw [had]; exact hq))
    have := k (by rw [st_n]; exact h0) hL (fun w hw => hst w (List.mem_cons_of_mem _ (List.mem_cons_of_mem _ hw))) H' (locs ++ [⟨ad G o, f.slot⟩]) ls hW' (hS.put e2 e3 (by show G.1 ≤ ad G o; rw [had]; omega)) hls
    rw [st_n] at this
    exact this
  rcases hfin with hfin | ⟨hin2, hdecl⟩
  · unfold u_lay at hlay
    rw [if_neg (by rw [hfin]; decide)] at hlay
    have h6 := u_store hfc hkC hkind hlay hi (c3 j hj) hn1 hn2
    exact W.putK hx hb (f := f) ⟨hown, hts _ hl, ⟨_, _, _, hi⟩, hst'⟩ (by rw [q2]; exact h6) q1 q3 (by rw [hsl]; exact k2_hasslot (q4 j hj)) rfl rfl hd fin
  · by_cases hf2 : (Tk ci j).2.2.2 = true
    · unfold u_lay at hlay
      rw [if_pos hf2] at hlay
      have hcf : m.cls = cf := by
        obtain ⟨_, _, c', _, _, _, -, -, hf', -, -, -, hown2, -⟩ := Cond.laysFinal_spec hlay
        have e1 : c' = cf := by have := hi.symm.trans hf'; simp at this; exact this.1.symm
        rw [hdecl] at hown2
        rw [← e1]; exact Option.some.inj (hown.symm.trans hown2)
      have h6 := u_fits hfc hkC hkind (Or.inr hlay) hi (c3 j hj) hn1 hn2
      exact W.putFinK hx hb hown (hts _ hl) hi hst' hcf hin2 (by rw [q2]; exact h6) q1 q3 (by rw [hsl]; exact k2_hasslot (q4 j hj)) rfl rfl hd fin
    · unfold u_lay at hlay
      rw [if_neg hf2] at hlay
      have h6 := u_store hfc hkC hkind hlay hi (c3 j hj) hn1 hn2
      exact W.putK hx hb (f := f) ⟨hown, hts _ hl, ⟨_, _, _, hi⟩, hst'⟩ (by rw [q2]; exact h6) q1 q3 (by rw [hsl]; exact k2_hasslot (q4 j hj)) rfl rfl hd fin
end MEM
end
