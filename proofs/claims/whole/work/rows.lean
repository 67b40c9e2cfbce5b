section
-- ===== PART A: goes FIRST, ahead of the names: the tables' words, and 'selects' of the private methods out of them =====
/-- a private method of a class that the tables say can be made, by its rows of tables_1 -/
def lw_okq (q : MethodName × Nat) : Prop := (q.1.cls ≠ "java/lang/invoke/MethodHandle" ∧ q.1.cls ≠ "java/lang/invoke/VarHandle") ∧ Cond.instantiable q.1.cls q.2 ∈ tables_1 ∧ Cond.privateMethod q.1 ∈ tables_1 ∧ Cond.instanceMethod q.1 ∈ tables_1
theorem lw_p0 : lw_okq (⟨"CreditGame", "checkPlayer", "(I)V"⟩, 5) := ⟨⟨by decide +kernel, by decide +kernel⟩, List.mem_of_getElem? (i := 16) (by decide +kernel), List.mem_of_getElem? (i := 142) (by decide +kernel), List.mem_of_getElem? (i := 143) (by decide +kernel)⟩
theorem lw_p1 : lw_okq (⟨"java/lang/Throwable", "fillInStackTrace", "(I)Ljava/lang/Throwable;"⟩, 6) := ⟨⟨by decide +kernel, by decide +kernel⟩, List.mem_of_getElem? (i := 183) (by decide +kernel), List.mem_of_getElem? (i := 181) (by decide +kernel), List.mem_of_getElem? (i := 182) (by decide +kernel)⟩
theorem lw_p2 : lw_okq (⟨"CreditGame$Values", "forget", "()V"⟩, 4) := ⟨⟨by decide +kernel, by decide +kernel⟩, List.mem_of_getElem? (i := 63) (by decide +kernel), List.mem_of_getElem? (i := 229) (by decide +kernel), List.mem_of_getElem? (i := 230) (by decide +kernel)⟩
theorem lw_p3 : lw_okq (⟨"CreditGame$Graph", "addVertex", "(I)I"⟩, 9) := ⟨⟨by decide +kernel, by decide +kernel⟩, List.mem_of_getElem? (i := 24) (by decide +kernel), List.mem_of_getElem? (i := 233) (by decide +kernel), List.mem_of_getElem? (i := 234) (by decide +kernel)⟩
theorem lw_p4 : lw_okq (⟨"CreditGame", "checkVertex", "(I)V"⟩, 5) := ⟨⟨by decide +kernel, by decide +kernel⟩, List.mem_of_getElem? (i := 16) (by decide +kernel), List.mem_of_getElem? (i := 244) (by decide +kernel), List.mem_of_getElem? (i := 245) (by decide +kernel)⟩
theorem lw_p5 : lw_okq (⟨"CreditGame$Graph", "hasVertex", "(I)Z"⟩, 9) := ⟨⟨by decide +kernel, by decide +kernel⟩, List.mem_of_getElem? (i := 24) (by decide +kernel), List.mem_of_getElem? (i := 248) (by decide +kernel), List.mem_of_getElem? (i := 249) (by decide +kernel)⟩
theorem lw_p6 : lw_okq (⟨"CreditGame$Graph", "addEdge", "(III)I"⟩, 9) := ⟨⟨by decide +kernel, by decide +kernel⟩, List.mem_of_getElem? (i := 24) (by decide +kernel), List.mem_of_getElem? (i := 255) (by decide +kernel), List.mem_of_getElem? (i := 256) (by decide +kernel)⟩
theorem lw_p7 : lw_okq (⟨"CreditGame$Graph", "isFrom", "(II)Z"⟩, 9) := ⟨⟨by decide +kernel, by decide +kernel⟩, List.mem_of_getElem? (i := 24) (by decide +kernel), List.mem_of_getElem? (i := 267) (by decide +kernel), List.mem_of_getElem? (i := 268) (by decide +kernel)⟩
theorem lw_p8 : lw_okq (⟨"CreditGame$Graph", "setFixed", "(II)V"⟩, 9) := ⟨⟨by decide +kernel, by decide +kernel⟩, List.mem_of_getElem? (i := 24) (by decide +kernel), List.mem_of_getElem? (i := 272) (by decide +kernel), List.mem_of_getElem? (i := 273) (by decide +kernel)⟩
theorem lw_p9 : lw_okq (⟨"CreditGame$Graph", "fixedOf", "(I)I"⟩, 9) := ⟨⟨by decide +kernel, by decide +kernel⟩, List.mem_of_getElem? (i := 24) (by decide +kernel), List.mem_of_getElem? (i := 283) (by decide +kernel), List.mem_of_getElem? (i := 284) (by decide +kernel)⟩
theorem lw_p10 : lw_okq (⟨"CreditGame", "checkComplete", "()V"⟩, 5) := ⟨⟨by decide +kernel, by decide +kernel⟩, List.mem_of_getElem? (i := 16) (by decide +kernel), List.mem_of_getElem? (i := 294) (by decide +kernel), List.mem_of_getElem? (i := 295) (by decide +kernel)⟩
theorem lw_p11 : lw_okq (⟨"CreditGame$Graph", "isComplete", "()Z"⟩, 9) := ⟨⟨by decide +kernel, by decide +kernel⟩, List.mem_of_getElem? (i := 24) (by decide +kernel), List.mem_of_getElem? (i := 298) (by decide +kernel), List.mem_of_getElem? (i := 299) (by decide +kernel)⟩
theorem lw_p12 : lw_okq (⟨"CreditGame$Graph", "waysFrom", "(I)I"⟩, 9) := ⟨⟨by decide +kernel, by decide +kernel⟩, List.mem_of_getElem? (i := 24) (by decide +kernel), List.mem_of_getElem? (i := 302) (by decide +kernel), List.mem_of_getElem? (i := 303) (by decide +kernel)⟩
theorem lw_p13 : lw_okq (⟨"CreditGame$Values", "findAll", "()V"⟩, 4) := ⟨⟨by decide +kernel, by decide +kernel⟩, List.mem_of_getElem? (i := 63) (by decide +kernel), List.mem_of_getElem? (i := 307) (by decide +kernel), List.mem_of_getElem? (i := 308) (by decide +kernel)⟩
theorem lw_p14 : lw_okq (⟨"CreditGame$Values", "find", "(I)V"⟩, 4) := ⟨⟨by decide +kernel, by decide +kernel⟩, List.mem_of_getElem? (i := 63) (by decide +kernel), List.mem_of_getElem? (i := 311) (by decide +kernel), List.mem_of_getElem? (i := 312) (by decide +kernel)⟩
theorem lw_p15 : lw_okq (⟨"CreditGame$Path", "clear", "()V"⟩, 2) := ⟨⟨by decide +kernel, by decide +kernel⟩, List.mem_of_getElem? (i := 69) (by decide +kernel), List.mem_of_getElem? (i := 316) (by decide +kernel), List.mem_of_getElem? (i := 317) (by decide +kernel)⟩
def lw_privs_1 : List (MethodName × Nat) := [(⟨"CreditGame", "checkPlayer", "(I)V"⟩, 5), (⟨"java/lang/Throwable", "fillInStackTrace", "(I)Ljava/lang/Throwable;"⟩, 6), (⟨"CreditGame$Values", "forget", "()V"⟩, 4), (⟨"CreditGame$Graph", "addVertex", "(I)I"⟩, 9), (⟨"CreditGame", "checkVertex", "(I)V"⟩, 5), (⟨"CreditGame$Graph", "hasVertex", "(I)Z"⟩, 9), (⟨"CreditGame$Graph", "addEdge", "(III)I"⟩, 9), (⟨"CreditGame$Graph", "isFrom", "(II)Z"⟩, 9), (⟨"CreditGame$Graph", "setFixed", "(II)V"⟩, 9), (⟨"CreditGame$Graph", "fixedOf", "(I)I"⟩, 9), (⟨"CreditGame", "checkComplete", "()V"⟩, 5), (⟨"CreditGame$Graph", "isComplete", "()Z"⟩, 9), (⟨"CreditGame$Graph", "waysFrom", "(I)I"⟩, 9), (⟨"CreditGame$Values", "findAll", "()V"⟩, 4), (⟨"CreditGame$Values", "find", "(I)V"⟩, 4), (⟨"CreditGame$Path", "clear", "()V"⟩, 2)]
theorem lw_r1 : ∀ q ∈ lw_privs_1, lw_okq q := List.forall_mem_cons.mpr ⟨lw_p0, List.forall_mem_cons.mpr ⟨lw_p1, List.forall_mem_cons.mpr ⟨lw_p2, List.forall_mem_cons.mpr ⟨lw_p3, List.forall_mem_cons.mpr ⟨lw_p4, List.forall_mem_cons.mpr ⟨lw_p5, List.forall_mem_cons.mpr ⟨lw_p6, List.forall_mem_cons.mpr ⟨lw_p7, List.forall_mem_cons.mpr ⟨lw_p8, List.forall_mem_cons.mpr ⟨lw_p9, List.forall_mem_cons.mpr ⟨lw_p10, List.forall_mem_cons.mpr ⟨lw_p11, List.forall_mem_cons.mpr ⟨lw_p12, List.forall_mem_cons.mpr ⟨lw_p13, List.forall_mem_cons.mpr ⟨lw_p14, List.forall_mem_cons.mpr ⟨lw_p15, fun _ h => absurd h List.not_mem_nil⟩⟩⟩⟩⟩⟩⟩⟩⟩⟩⟩⟩⟩⟩⟩⟩
theorem lw_p16 : lw_okq (⟨"CreditGame$Values", "playAt", "(IIIII)I"⟩, 4) := ⟨⟨by decide +kernel, by decide +kernel⟩, List.mem_of_getElem? (i := 63) (by decide +kernel), List.mem_of_getElem? (i := 325) (by decide +kernel), List.mem_of_getElem? (i := 326) (by decide +kernel)⟩
theorem lw_p17 : lw_okq (⟨"CreditGame$Path", "has", "(I)Z"⟩, 2) := ⟨⟨by decide +kernel, by decide +kernel⟩, List.mem_of_getElem? (i := 69) (by decide +kernel), List.mem_of_getElem? (i := 329) (by decide +kernel), List.mem_of_getElem? (i := 330) (by decide +kernel)⟩
theorem lw_p18 : lw_okq (⟨"CreditGame$Path", "isPlace", "(I)Z"⟩, 2) := ⟨⟨by decide +kernel, by decide +kernel⟩, List.mem_of_getElem? (i := 69) (by decide +kernel), List.mem_of_getElem? (i := 333) (by decide +kernel), List.mem_of_getElem? (i := 334) (by decide +kernel)⟩
theorem lw_p19 : lw_okq (⟨"CreditGame$Path", "stepsTo", "(I)I"⟩, 2) := ⟨⟨by decide +kernel, by decide +kernel⟩, List.mem_of_getElem? (i := 69) (by decide +kernel), List.mem_of_getElem? (i := 337) (by decide +kernel), List.mem_of_getElem? (i := 338) (by decide +kernel)⟩
theorem lw_p20 : lw_okq (⟨"CreditGame$Path", "sumTo", "(I)I"⟩, 2) := ⟨⟨by decide +kernel, by decide +kernel⟩, List.mem_of_getElem? (i := 69) (by decide +kernel), List.mem_of_getElem? (i := 341) (by decide +kernel), List.mem_of_getElem? (i := 342) (by decide +kernel)⟩
theorem lw_p21 : lw_okq (⟨"CreditGame$Path", "enter", "(III)V"⟩, 2) := ⟨⟨by decide +kernel, by decide +kernel⟩, List.mem_of_getElem? (i := 69) (by decide +kernel), List.mem_of_getElem? (i := 348) (by decide +kernel), List.mem_of_getElem? (i := 349) (by decide +kernel)⟩
theorem lw_p22 : lw_okq (⟨"CreditGame$Graph", "ownerOf", "(I)I"⟩, 9) := ⟨⟨by decide +kernel, by decide +kernel⟩, List.mem_of_getElem? (i := 24) (by decide +kernel), List.mem_of_getElem? (i := 352) (by decide +kernel), List.mem_of_getElem? (i := 353) (by decide +kernel)⟩
theorem lw_p23 : lw_okq (⟨"CreditGame$Values", "greatestPay", "(IIIII)I"⟩, 4) := ⟨⟨by decide +kernel, by decide +kernel⟩, List.mem_of_getElem? (i := 63) (by decide +kernel), List.mem_of_getElem? (i := 356) (by decide +kernel), List.mem_of_getElem? (i := 357) (by decide +kernel)⟩
theorem lw_p24 : lw_okq (⟨"CreditGame$Graph", "wayFrom", "(II)I"⟩, 9) := ⟨⟨by decide +kernel, by decide +kernel⟩, List.mem_of_getElem? (i := 24) (by decide +kernel), List.mem_of_getElem? (i := 361) (by decide +kernel), List.mem_of_getElem? (i := 362) (by decide +kernel)⟩
theorem lw_p25 : lw_okq (⟨"CreditGame$Graph", "targetOf", "(I)I"⟩, 9) := ⟨⟨by decide +kernel, by decide +kernel⟩, List.mem_of_getElem? (i := 24) (by decide +kernel), List.mem_of_getElem? (i := 365) (by decide +kernel), List.mem_of_getElem? (i := 366) (by decide +kernel)⟩
theorem lw_p26 : lw_okq (⟨"CreditGame$Graph", "weightOf", "(I)I"⟩, 9) := ⟨⟨by decide +kernel, by decide +kernel⟩, List.mem_of_getElem? (i := 24) (by decide +kernel), List.mem_of_getElem? (i := 369) (by decide +kernel), List.mem_of_getElem? (i := 370) (by decide +kernel)⟩
theorem lw_p27 : lw_okq (⟨"CreditGame$Values", "leastPay", "(IIIII)I"⟩, 4) := ⟨⟨by decide +kernel, by decide +kernel⟩, List.mem_of_getElem? (i := 63) (by decide +kernel), List.mem_of_getElem? (i := 376) (by decide +kernel), List.mem_of_getElem? (i := 377) (by decide +kernel)⟩
theorem lw_p28 : lw_okq (⟨"CreditGame$Path", "leave", "(I)V"⟩, 2) := ⟨⟨by decide +kernel, by decide +kernel⟩, List.mem_of_getElem? (i := 69) (by decide +kernel), List.mem_of_getElem? (i := 383) (by decide +kernel), List.mem_of_getElem? (i := 384) (by decide +kernel)⟩
theorem lw_p29 : lw_okq (⟨"CreditGame$Credits", "solve", "(III)V"⟩, 4) := ⟨⟨by decide +kernel, by decide +kernel⟩, List.mem_of_getElem? (i := 96) (by decide +kernel), List.mem_of_getElem? (i := 387) (by decide +kernel), List.mem_of_getElem? (i := 388) (by decide +kernel)⟩
theorem lw_p30 : lw_okq (⟨"CreditGame$Values", "order", "(III)I"⟩, 4) := ⟨⟨by decide +kernel, by decide +kernel⟩, List.mem_of_getElem? (i := 63) (by decide +kernel), List.mem_of_getElem? (i := 392) (by decide +kernel), List.mem_of_getElem? (i := 393) (by decide +kernel)⟩
theorem lw_p31 : lw_okq (⟨"CreditGame$Values", "partsOf", "(I)I"⟩, 4) := ⟨⟨by decide +kernel, by decide +kernel⟩, List.mem_of_getElem? (i := 63) (by decide +kernel), List.mem_of_getElem? (i := 396) (by decide +kernel), List.mem_of_getElem? (i := 397) (by decide +kernel)⟩
def lw_privs_2 : List (MethodName × Nat) := [(⟨"CreditGame$Values", "playAt", "(IIIII)I"⟩, 4), (⟨"CreditGame$Path", "has", "(I)Z"⟩, 2), (⟨"CreditGame$Path", "isPlace", "(I)Z"⟩, 2), (⟨"CreditGame$Path", "stepsTo", "(I)I"⟩, 2), (⟨"CreditGame$Path", "sumTo", "(I)I"⟩, 2), (⟨"CreditGame$Path", "enter", "(III)V"⟩, 2), (⟨"CreditGame$Graph", "ownerOf", "(I)I"⟩, 9), (⟨"CreditGame$Values", "greatestPay", "(IIIII)I"⟩, 4), (⟨"CreditGame$Graph", "wayFrom", "(II)I"⟩, 9), (⟨"CreditGame$Graph", "targetOf", "(I)I"⟩, 9), (⟨"CreditGame$Graph", "weightOf", "(I)I"⟩, 9), (⟨"CreditGame$Values", "leastPay", "(IIIII)I"⟩, 4), (⟨"CreditGame$Path", "leave", "(I)V"⟩, 2), (⟨"CreditGame$Credits", "solve", "(III)V"⟩, 4), (⟨"CreditGame$Values", "order", "(III)I"⟩, 4), (⟨"CreditGame$Values", "partsOf", "(I)I"⟩, 4)]
theorem lw_r2 : ∀ q ∈ lw_privs_2, lw_okq q := List.forall_mem_cons.mpr ⟨lw_p16, List.forall_mem_cons.mpr ⟨lw_p17, List.forall_mem_cons.mpr ⟨lw_p18, List.forall_mem_cons.mpr ⟨lw_p19, List.forall_mem_cons.mpr ⟨lw_p20, List.forall_mem_cons.mpr ⟨lw_p21, List.forall_mem_cons.mpr ⟨lw_p22, List.forall_mem_cons.mpr ⟨lw_p23, List.forall_mem_cons.mpr ⟨lw_p24, List.forall_mem_cons.mpr ⟨lw_p25, List.forall_mem_cons.mpr ⟨lw_p26, List.forall_mem_cons.mpr ⟨lw_p27, List.forall_mem_cons.mpr ⟨lw_p28, List.forall_mem_cons.mpr ⟨lw_p29, List.forall_mem_cons.mpr ⟨lw_p30, List.forall_mem_cons.mpr ⟨lw_p31, fun _ h => absurd h List.not_mem_nil⟩⟩⟩⟩⟩⟩⟩⟩⟩⟩⟩⟩⟩⟩⟩⟩
theorem lw_p32 : lw_okq (⟨"CreditGame$Credits", "isGoodFor", "(II)Z"⟩, 4) := ⟨⟨by decide +kernel, by decide +kernel⟩, List.mem_of_getElem? (i := 96) (by decide +kernel), List.mem_of_getElem? (i := 403) (by decide +kernel), List.mem_of_getElem? (i := 404) (by decide +kernel)⟩
theorem lw_p33 : lw_okq (⟨"CreditGame$Credits", "enoughAt", "(IZ)I"⟩, 4) := ⟨⟨by decide +kernel, by decide +kernel⟩, List.mem_of_getElem? (i := 96) (by decide +kernel), List.mem_of_getElem? (i := 408) (by decide +kernel), List.mem_of_getElem? (i := 409) (by decide +kernel)⟩
theorem lw_p34 : lw_okq (⟨"CreditGame$Credits", "needBefore", "(I)I"⟩, 4) := ⟨⟨by decide +kernel, by decide +kernel⟩, List.mem_of_getElem? (i := 96) (by decide +kernel), List.mem_of_getElem? (i := 414) (by decide +kernel), List.mem_of_getElem? (i := 415) (by decide +kernel)⟩
theorem lw_p35 : lw_okq (⟨"CreditGame$Credits", "needOf", "(I)I"⟩, 4) := ⟨⟨by decide +kernel, by decide +kernel⟩, List.mem_of_getElem? (i := 96) (by decide +kernel), List.mem_of_getElem? (i := 419) (by decide +kernel), List.mem_of_getElem? (i := 420) (by decide +kernel)⟩
theorem lw_p36 : lw_okq (⟨"CreditGame$Credits", "gainOf", "(I)I"⟩, 4) := ⟨⟨by decide +kernel, by decide +kernel⟩, List.mem_of_getElem? (i := 96) (by decide +kernel), List.mem_of_getElem? (i := 423) (by decide +kernel), List.mem_of_getElem? (i := 424) (by decide +kernel)⟩
theorem lw_p37 : lw_okq (⟨"CreditGame$Values", "bottomOf", "(I)I"⟩, 4) := ⟨⟨by decide +kernel, by decide +kernel⟩, List.mem_of_getElem? (i := 63) (by decide +kernel), List.mem_of_getElem? (i := 447) (by decide +kernel), List.mem_of_getElem? (i := 448) (by decide +kernel)⟩
theorem lw_p38 : lw_okq (⟨"CreditGame$Values", "topOf", "(I)I"⟩, 4) := ⟨⟨by decide +kernel, by decide +kernel⟩, List.mem_of_getElem? (i := 63) (by decide +kernel), List.mem_of_getElem? (i := 451) (by decide +kernel), List.mem_of_getElem? (i := 452) (by decide +kernel)⟩
theorem lw_p39 : lw_okq (⟨"CreditGame", "bestEdge", "(I)I"⟩, 5) := ⟨⟨by decide +kernel, by decide +kernel⟩, List.mem_of_getElem? (i := 16) (by decide +kernel), List.mem_of_getElem? (i := 463) (by decide +kernel), List.mem_of_getElem? (i := 464) (by decide +kernel)⟩
theorem lw_p40 : lw_okq (⟨"CreditGame$Credits", "allows", "(II)Z"⟩, 4) := ⟨⟨by decide +kernel, by decide +kernel⟩, List.mem_of_getElem? (i := 96) (by decide +kernel), List.mem_of_getElem? (i := 470) (by decide +kernel), List.mem_of_getElem? (i := 471) (by decide +kernel)⟩
theorem lw_p41 : lw_okq (⟨"CreditGame", "chooseFor", "(I)V"⟩, 5) := ⟨⟨by decide +kernel, by decide +kernel⟩, List.mem_of_getElem? (i := 16) (by decide +kernel), List.mem_of_getElem? (i := 481) (by decide +kernel), List.mem_of_getElem? (i := 482) (by decide +kernel)⟩
theorem lw_p42 : lw_okq (⟨"CreditGame", "fixChosen", "()I"⟩, 5) := ⟨⟨by decide +kernel, by decide +kernel⟩, List.mem_of_getElem? (i := 16) (by decide +kernel), List.mem_of_getElem? (i := 485) (by decide +kernel), List.mem_of_getElem? (i := 486) (by decide +kernel)⟩
theorem lw_p43 : lw_okq (⟨"CreditGame", "tellWalk", "(II)I"⟩, 5) := ⟨⟨by decide +kernel, by decide +kernel⟩, List.mem_of_getElem? (i := 16) (by decide +kernel), List.mem_of_getElem? (i := 497) (by decide +kernel), List.mem_of_getElem? (i := 498) (by decide +kernel)⟩
theorem lw_p44 : lw_okq (⟨"CreditGameModel", "isVertex", "(I)Z"⟩, 16) := ⟨⟨by decide +kernel, by decide +kernel⟩, List.mem_of_getElem? (i := 508) (by decide +kernel), List.mem_of_getElem? (i := 576) (by decide +kernel), List.mem_of_getElem? (i := 577) (by decide +kernel)⟩
theorem lw_p45 : lw_okq (⟨"CreditGameModel", "refuses", "(I)Z"⟩, 16) := ⟨⟨by decide +kernel, by decide +kernel⟩, List.mem_of_getElem? (i := 508) (by decide +kernel), List.mem_of_getElem? (i := 592) (by decide +kernel), List.mem_of_getElem? (i := 593) (by decide +kernel)⟩
theorem lw_p46 : lw_okq (⟨"CreditGameModel", "isComplete", "()Z"⟩, 16) := ⟨⟨by decide +kernel, by decide +kernel⟩, List.mem_of_getElem? (i := 508) (by decide +kernel), List.mem_of_getElem? (i := 596) (by decide +kernel), List.mem_of_getElem? (i := 597) (by decide +kernel)⟩
theorem lw_p47 : lw_okq (⟨"CreditGameModel", "leads", "(II)Z"⟩, 16) := ⟨⟨by decide +kernel, by decide +kernel⟩, List.mem_of_getElem? (i := 508) (by decide +kernel), List.mem_of_getElem? (i := 600) (by decide +kernel), List.mem_of_getElem? (i := 601) (by decide +kernel)⟩
def lw_privs_3 : List (MethodName × Nat) := [(⟨"CreditGame$Credits", "isGoodFor", "(II)Z"⟩, 4), (⟨"CreditGame$Credits", "enoughAt", "(IZ)I"⟩, 4), (⟨"CreditGame$Credits", "needBefore", "(I)I"⟩, 4), (⟨"CreditGame$Credits", "needOf", "(I)I"⟩, 4), (⟨"CreditGame$Credits", "gainOf", "(I)I"⟩, 4), (⟨"CreditGame$Values", "bottomOf", "(I)I"⟩, 4), (⟨"CreditGame$Values", "topOf", "(I)I"⟩, 4), (⟨"CreditGame", "bestEdge", "(I)I"⟩, 5), (⟨"CreditGame$Credits", "allows", "(II)Z"⟩, 4), (⟨"CreditGame", "chooseFor", "(I)V"⟩, 5), (⟨"CreditGame", "fixChosen", "()I"⟩, 5), (⟨"CreditGame", "tellWalk", "(II)I"⟩, 5), (⟨"CreditGameModel", "isVertex", "(I)Z"⟩, 16), (⟨"CreditGameModel", "refuses", "(I)Z"⟩, 16), (⟨"CreditGameModel", "isComplete", "()Z"⟩, 16), (⟨"CreditGameModel", "leads", "(II)Z"⟩, 16)]
theorem lw_r3 : ∀ q ∈ lw_privs_3, lw_okq q := List.forall_mem_cons.mpr ⟨lw_p32, List.forall_mem_cons.mpr ⟨lw_p33, List.forall_mem_cons.mpr ⟨lw_p34, List.forall_mem_cons.mpr ⟨lw_p35, List.forall_mem_cons.mpr ⟨lw_p36, List.forall_mem_cons.mpr ⟨lw_p37, List.forall_mem_cons.mpr ⟨lw_p38, List.forall_mem_cons.mpr ⟨lw_p39, List.forall_mem_cons.mpr ⟨lw_p40, List.forall_mem_cons.mpr ⟨lw_p41, List.forall_mem_cons.mpr ⟨lw_p42, List.forall_mem_cons.mpr ⟨lw_p43, List.forall_mem_cons.mpr ⟨lw_p44, List.forall_mem_cons.mpr ⟨lw_p45, List.forall_mem_cons.mpr ⟨lw_p46, List.forall_mem_cons.mpr ⟨lw_p47, fun _ h => absurd h List.not_mem_nil⟩⟩⟩⟩⟩⟩⟩⟩⟩⟩⟩⟩⟩⟩⟩⟩
theorem lw_p48 : lw_okq (⟨"CreditGameModel", "findNeeds", "(III)V"⟩, 16) := ⟨⟨by decide +kernel, by decide +kernel⟩, List.mem_of_getElem? (i := 508) (by decide +kernel), List.mem_of_getElem? (i := 604) (by decide +kernel), List.mem_of_getElem? (i := 605) (by decide +kernel)⟩
theorem lw_p49 : lw_okq (⟨"CreditGameModel", "need", "(IIII)I"⟩, 16) := ⟨⟨by decide +kernel, by decide +kernel⟩, List.mem_of_getElem? (i := 508) (by decide +kernel), List.mem_of_getElem? (i := 608) (by decide +kernel), List.mem_of_getElem? (i := 609) (by decide +kernel)⟩
theorem lw_p50 : lw_okq (⟨"CreditGameModel", "findValues", "()V"⟩, 16) := ⟨⟨by decide +kernel, by decide +kernel⟩, List.mem_of_getElem? (i := 508) (by decide +kernel), List.mem_of_getElem? (i := 617) (by decide +kernel), List.mem_of_getElem? (i := 618) (by decide +kernel)⟩
theorem lw_p51 : lw_okq (⟨"CreditGameModel", "nearest", "(IJI)V"⟩, 16) := ⟨⟨by decide +kernel, by decide +kernel⟩, List.mem_of_getElem? (i := 508) (by decide +kernel), List.mem_of_getElem? (i := 623) (by decide +kernel), List.mem_of_getElem? (i := 624) (by decide +kernel)⟩
theorem lw_p52 : lw_okq (⟨"CreditGameModel", "bestOf", "(I)I"⟩, 16) := ⟨⟨by decide +kernel, by decide +kernel⟩, List.mem_of_getElem? (i := 508) (by decide +kernel), List.mem_of_getElem? (i := 638) (by decide +kernel), List.mem_of_getElem? (i := 639) (by decide +kernel)⟩
def lw_privs_4 : List (MethodName × Nat) := [(⟨"CreditGameModel", "findNeeds", "(III)V"⟩, 16), (⟨"CreditGameModel", "need", "(IIII)I"⟩, 16), (⟨"CreditGameModel", "findValues", "()V"⟩, 16), (⟨"CreditGameModel", "nearest", "(IJI)V"⟩, 16), (⟨"CreditGameModel", "bestOf", "(I)I"⟩, 16)]
theorem lw_r4 : ∀ q ∈ lw_privs_4, lw_okq q := List.forall_mem_cons.mpr ⟨lw_p48, List.forall_mem_cons.mpr ⟨lw_p49, List.forall_mem_cons.mpr ⟨lw_p50, List.forall_mem_cons.mpr ⟨lw_p51, List.forall_mem_cons.mpr ⟨lw_p52, fun _ h => absurd h List.not_mem_nil⟩⟩⟩⟩⟩
def lw_privs : List (MethodName × Nat) := lw_privs_1 ++ (lw_privs_2 ++ (lw_privs_3 ++ (lw_privs_4)))
def lw_tbl : List Cond := k2_sels lw_privs ++ tables_1
theorem lw_privs_ok : ∀ q ∈ lw_privs, lw_okq q := by
  show ∀ q ∈ lw_privs_1 ++ (lw_privs_2 ++ (lw_privs_3 ++ (lw_privs_4))), lw_okq q
  exact List.forall_mem_append.mpr ⟨lw_r1, List.forall_mem_append.mpr ⟨lw_r2, List.forall_mem_append.mpr ⟨lw_r3, lw_r4⟩⟩⟩
end
section
/-- (mine: the printed rows use this name, and neither they nor the kit say it) -/
def va_AOA (t : FieldType) (U : State) : Prop := (Cond.arrayOver (.array t)).before #[] U = true
theorem va_AOA.use {t : FieldType} {A : Array Value} {U : State} (h : va_AOA t U) : (Cond.arrayOver (.array t)).before A U = true := h
/-! ===== BEGIN words of one list among another's, by their places ===== -/
theorem goodIn_r {big : List Cond} (ws : List Cond) (ps : List Nat) (hp : ws = ps.filterMap (fun i => big[i]?)) (h : ws.all goodWord = true) : GoodIn big ws := by
  intro w hw
  have h1 := List.all_eq_true.mp h w hw
  rw [hp] at hw
  obtain ⟨i, -, hi⟩ := List.mem_filterMap.mp hw
  have hm : w ∈ big := by first | exact List.mem_of_getElem? hi | exact List.getElem?_mem hi
  exact ⟨hm, good_of_word h1⟩
theorem goodIn_app {big a b : List Cond} (ha : GoodIn big a) (hb : GoodIn big b) : GoodIn big (a ++ b) := fun w h => (List.mem_append.mp h).elim (ha w) (hb w)
theorem goodIn_ca {big a b : List Cond} {c : Cond} (ha : GoodIn big (c :: a)) (hb : GoodIn big b) : GoodIn big (c :: (a ++ b)) := fun w h => (List.mem_cons.mp h).elim (fun e => ha w (List.mem_cons.mpr (Or.inl e))) (fun h => (List.mem_append.mp h).elim (fun h => ha w (List.mem_cons.mpr (Or.inr h))) (hb w))
theorem goodIn_sub {big ws : List Cond} (hm : ∀ w ∈ ws, w ∈ big) (h : ws.all goodWord = true) : GoodIn big ws := fun w hw => ⟨hm w hw, good_of_word (List.all_eq_true.mp h w hw)⟩
/-! ===== END ===== -/

/-! ===== BEGIN new T[n][m]: the outer array a place, the inner ones among the pooled ===== -/
/-- f, but v at every address of l -/
def vr_up {α : Type} (f : Nat → α) (l : List Nat) (v : α) : Nat → α := fun a => if a ∈ l then v else f a
theorem vr_up_in {α : Type} {f : Nat → α} {l : List Nat} {v : α} {a : Nat} (h : a ∈ l) : vr_up f l v a = v := if_pos h
theorem vr_up_ne {α : Type} {f : Nat → α} {l : List Nat} {v : α} {a : Nat} (h : a ∉ l) : vr_up f l v a = f a := if_neg h
theorem vr_rows {L l : List Nat} {f : Nat → va_E} {e : va_E} (h : ∀ a, a ∈ l → a ∉ L) : va_pl L f ++ l.map (fun a => (a, e)) = va_pl (L ++ l) (vr_up f l e) := by
  unfold va_pl
  rw [List.map_append]
  congr 1
  · apply List.map_congr_left
    intro a ha
    rw [vr_up_ne (fun q => h a q ha)]
  · apply List.map_congr_left
    intro a ha
    rw [vr_up_in ha]
theorem vr_lay {X rows : va_W} {x : Nat × va_E} {pl : va_W} {D : va_G} {cl : List vw_C} {H : Heap} (hP : va_P D cl (((X ++ pl) ++ [x]) ++ rows) H) : va_P D cl ((X ++ [x]) ++ (pl ++ rows)) H := by
  rw [List.append_assoc (X ++ pl)] at hP
  have h := va_P.swap hP
  rw [← List.append_assoc X] at h
  have h2 := va_P.swap h
  rw [List.append_assoc (X ++ [x])] at h2
  exact h2
theorem vr_layD {X rows : va_W} {x : Nat × va_E} {pl : va_W} {A : Nat → Prop} (hD : va_D A (((X ++ pl) ++ [x]) ++ rows)) : va_D A ((X ++ [x]) ++ (pl ++ rows)) := by
  rw [List.append_assoc (X ++ pl)] at hD
  have h := va_D.swap hD
  rw [← List.append_assoc X] at h
  have h2 := va_D.swap h
  rw [List.append_assoc (X ++ [x])] at h2
  exact h2
theorem vr_outer (c : ClassId) (N h0 : Nat) : ∀ i : Nat, Jvm.Free.Multi.outerC c N h0 i = arrV c N (fun j => va_rf (if j < i then some (h0 + 1 + j) else none))
  | 0 => by
    show ({ cls := c, slots := Array.replicate N .null, vm := .none } : Cell) = _
    rw [arrV_new]
    refine congrArg (arrV c N) (funext fun j => ?_)
    simp [va_rf]
  | i + 1 => by
    show (Jvm.Free.Multi.outerC c N h0 i).setSlot i (.ref (h0 + 1 + i)) = _
    rw [vr_outer c N h0 i, arrV_store]
    refine congrArg (arrV c N) (funext fun j => ?_)
    by_cases e : j = i
    · subst e
      simp [updV, va_rf]
    · by_cases h : j < i
      · simp [updV, e, h, Nat.lt_succ_of_lt h]
      · simp [updV, e, h, show ¬ j < i + 1 by omega]
section VGM
variable {p : Program} {l : Launch} {e : Env} {R : Room} {s : State} {m : MethodId} {args : Array Value} {below : List Frame} {meth : Method} {c : Code} {H : Heap} {locs : List Loc} {cells slots : Nat} {Q : State → Prop}
variable {cc : ByteArray} {pc : Nat} {ls : Array Slot} {rest : List Value} {D : va_G} {cl : List vw_C} {A : Nat → Prop} {a : Nat} {tys : List (ClassId × FieldType)} {ws : va_W} {H0 : Heap}
theorem va_mna {X : va_W} {L : List Nat} {f : Nat → va_E} {cc : ByteArray} (hexec : p.tables.exec = Jvm.exec) (hb : c.code = cc) {own : String} {index : Nat} {ty : FieldType} {cy : ClassId} (hown : s.vm.findClass own = some m.cls) (hclink : (Cond.classLink own index ("[" ++ (FieldType.array ty).toString)).before args s = true) (hover : va_AOA ty s) (harr : (Cond.arrayClass ty).before args s = true) (hcy : s.vm.findClass (FieldType.array ty).toString = some cy)
    (hK : va_K D cl tys s) (hP : va_P D cl (X ++ va_pl L f) H) (hD : va_D A (X ++ va_pl L f)) (hS : va_S A H0 H locs) (hA : ∀ q, H0.size ≤ q → A q) {n k : Int32} {N' K' : Nat} {z : vp_A} (hn : ¬ n < 0) (hk : ¬ k < 0) (hN : n.toNatClampNeg = N') (hM : k.toNatClampNeg = K')
    (hb1 : N' * 4 ≤ 536870912) (hb2 : K' * componentBytes ty ≤ 536870912) (hb3 : K' ≤ 536870912) (hdf : fits ty (defaultValue ty) = true) (hdd : (defaultValue ty).isDefault = true) (hcells : cells + (1 + N') ≤ R.cells) (hslots : slots + (N' + N' * K') ≤ R.slots) (hz : ∀ c : ClassId, Jvm.Free.Multi.innerC c K' (defaultValue ty) = vp_cell c z) (hdg : decode cc pc = .ok (.multianewarray index 2, 4))
    (kk : ∀ (q : Nat) (r : Nat → Nat) (cA : ClassId) (H1 : Heap), (∀ i j : Nat, i < N' → j < N' → r i = r j → i = j) → (∀ i : Nat, i < N' → r i ∉ L) → va_K D cl (tys ++ [(cA, .array ty)]) s →
      va_P D cl ((X ++ [(q, .inl (cA, N', .inr (.inr (.inr (.inr (fun i => if i < N' then some (r i) else none))))))]) ++ va_pl (L ++ (List.range N').map r) (vr_up f ((List.range N').map r) (.inl (cy, z)))) H1 → va_D A ((X ++ [(q, .inl (cA, N', .inr (.inr (.inr (.inr (fun i => if i < N' then some (r i) else none))))))]) ++ va_pl (L ++ (List.range N').map r) (vr_up f ((List.range N').map r) (.inl (cy, z)))) → va_S A H0 H1 locs →
      W p l e R s m args below meth c H1 locs (cells + 1 + N') (slots + N' + N' * K') Q (F0 m (pc + 4) ls (.ref q :: rest))) : W p l e R s m args below meth c H locs cells slots Q (F0 m pc ls (.int k :: .int n :: rest)) := by
  subst hN
  subst hM
  intro T hT Xs
  obtain ⟨vm₁, cA, comp, -, fA, fC, hO, -, X', step⟩ := Xs.multianewarray2F hexec hown hclink (va_AOA.use hover) harr (g := F0 m pc ls (.int k :: .int n :: rest)) rfl (by rw [hb]; exact hdg) rfl hn hk hb1 hb2 hb3 hdf hdd hcells hslots
  have ec : some cy = some comp := hcy.symm.trans fC
  cases ec
  generalize hF : Jvm.Free.Multi.fill (T.setVm vm₁) cA cy n.toNatClampNeg k.toNatClampNeg (defaultValue ty) n.toNatClampNeg = F at X' step
  have hTh : (T.setVm vm₁).heap = H := hT
  obtain ⟨f1, f2, -, -⟩ := Jvm.Free.Multi.fill_facts (T.setVm vm₁) cA cy n.toNatClampNeg k.toNatClampNeg (defaultValue ty) n.toNatClampNeg
  rw [hF, hTh] at f1 f2
  have hold : ∀ x : Nat, x < H.size → F.heap[x]? = H[x]? := fun x hx => by
    have := Jvm.Free.Multi.fill_old (T.setVm vm₁) cA cy n.toNatClampNeg k.toNatClampNeg (defaultValue ty) (a := x) (by rw [hTh]; exact hx) n.toNatClampNeg
    rw [hF, hTh] at this
    exact this
  have hrow : ∀ j : Nat, j < n.toNatClampNeg → F.heap[H.size + 1 + j]? = some (vp_cell cy z) := fun j hj => by
    have := Jvm.Free.Multi.fill_inner (T.setVm vm₁) cA cy n.toNatClampNeg k.toNatClampNeg (defaultValue ty) n.toNatClampNeg j hj
    rw [hF, hTh, hz] at this
    exact this
  have hout : Jvm.Free.Multi.outerC cA n.toNatClampNeg H.size n.toNatClampNeg = vp_cell cA (n.toNatClampNeg, .inr (.inr (.inr (.inr (fun i => if i < n.toNatClampNeg then some (H.size + 1 + i) else none))))) := by
    rw [vp_cell_q]
    exact vr_outer cA n.toNatClampNeg H.size n.toNatClampNeg
  rw [hout] at f2
  have hlt : ∀ a, a ∈ L → a < H.size := fun a ha => by
    obtain ⟨k9, hk9⟩ := va_pl_get (X := X) (f := f) ha
    exact (hP k9 _ hk9).lt
  have hnl : ∀ i : Nat, i < n.toNatClampNeg → H.size + 1 + i ∉ L := fun i _ h => by
    have := hlt _ h
    omega
  have hnm : ∀ a, a ∈ (List.range n.toNatClampNeg).map (fun i => H.size + 1 + i) → a ∉ L := fun a ha h => by
    obtain ⟨i, -, rfl⟩ := List.mem_map.mp ha
    have := hlt _ h
    omega
  have hP0 : va_P D cl (X ++ va_pl L f) F.heap := hP.kept (fun k9 x hx => hold x.1 ((hP k9 x hx).lt))
  have hP1 : va_P D cl ((X ++ va_pl L f) ++ [(H.size, .inl (cA, n.toNatClampNeg, .inr (.inr (.inr (.inr (fun i => if i < n.toNatClampNeg then some (H.size + 1 + i) else none))))))]) F.heap := hP0.app (fun k9 x hx => by
    have h0 : k9 < 1 := (List.getElem?_eq_some_iff.mp hx).1
    rw [show k9 = 0 by omega] at hx
    cases hx
    exact f2)
  have hP2 : va_P D cl (((X ++ va_pl L f) ++ [(H.size, .inl (cA, n.toNatClampNeg, .inr (.inr (.inr (.inr (fun i => if i < n.toNatClampNeg then some (H.size + 1 + i) else none))))))]) ++ ((List.range n.toNatClampNeg).map (fun i => H.size + 1 + i)).map (fun a => (a, .inl (cy, z)))) F.heap := hP1.app (fun k9 x hx => by
    obtain ⟨a, ha, rfl⟩ := List.mem_map.mp (List.mem_of_getElem? hx)
    obtain ⟨i, hi, rfl⟩ := List.mem_map.mp ha
    exact hrow i (List.mem_range.mp hi))
  have hD2 : va_D A (((X ++ va_pl L f) ++ [(H.size, .inl (cA, n.toNatClampNeg, .inr (.inr (.inr (.inr (fun i => if i < n.toNatClampNeg then some (H.size + 1 + i) else none))))))]) ++ ((List.range n.toNatClampNeg).map (fun i => H.size + 1 + i)).map (fun a => (a, .inl (cy, z)))) := by
    have hD1 := hD.push (e := .inl (cA, n.toNatClampNeg, .inr (.inr (.inr (.inr (fun i => if i < n.toNatClampNeg then some (H.size + 1 + i) else none)))))) hP rfl (hA _ hS.1)
    generalize hW1 : (X ++ va_pl L f) ++ [(H.size, .inl (cA, n.toNatClampNeg, .inr (.inr (.inr (.inr (fun i => if i < n.toNatClampNeg then some (H.size + 1 + i) else none))))))] = W1 at hD1 hP1 ⊢
    have hle : ∀ (k9 : Nat) (x : Nat × va_E), W1[k9]? = some x → x.1 ≤ H.size := fun k9 x hx => by
      rw [← hW1] at hx
      by_cases hl : k9 < (X ++ va_pl L f).length
      · rw [List.getElem?_append_left hl] at hx
        exact Nat.le_of_lt ((hP k9 x hx).lt)
      · rw [List.getElem?_append_right (by omega)] at hx
        have h0 : k9 - (X ++ va_pl L f).length < 1 := (List.getElem?_eq_some_iff.mp hx).1
        rw [show k9 - (X ++ va_pl L f).length = 0 by omega] at hx
        cases hx
        exact Nat.le_refl _
    have hr : ∀ (k9 : Nat) (x : Nat × va_E), (((List.range n.toNatClampNeg).map (fun i => H.size + 1 + i)).map (fun a => ((a, .inl (cy, z)) : Nat × va_E)))[k9]? = some x → x.1 = H.size + 1 + k9 := fun k9 x hx => by
      rw [List.getElem?_map, List.getElem?_map] at hx
      by_cases h9 : k9 < n.toNatClampNeg
      · rw [List.getElem?_range h9] at hx
        cases hx
        rfl
      · have hn0 : (List.range n.toNatClampNeg)[k9]? = none := List.getElem?_eq_none (by rw [List.length_range]; omega)
        rw [hn0] at hx
        cases hx
    refine ⟨fun i j x y hi hj hxy => ?_, fun k9 x hx => ?_⟩
    · by_cases h1 : i < W1.length <;> by_cases h2 : j < W1.length
      · rw [List.getElem?_append_left h1] at hi
        rw [List.getElem?_append_left h2] at hj
        exact hD1.1 i j x y hi hj hxy
      · rw [List.getElem?_append_left h1] at hi
        rw [List.getElem?_append_right (by omega)] at hj
        have := hle _ _ hi
        have := hr _ _ hj
        omega
      · rw [List.getElem?_append_right (by omega)] at hi
        rw [List.getElem?_append_left h2] at hj
        have := hle _ _ hj
        have := hr _ _ hi
        omega
      · rw [List.getElem?_append_right (by omega)] at hi hj
        have := hr _ _ hi
        have := hr _ _ hj
        omega
    · by_cases h1 : k9 < W1.length
      · rw [List.getElem?_append_left h1] at hx
        exact hD1.2 k9 x hx
      · rw [List.getElem?_append_right (by omega)] at hx
        have := hr _ _ hx
        exact hA _ (by have := hS.1; omega)
  have hAr : ArrOfT s cA (.array ty) := fun N9 z9 => by
    obtain ⟨-, k9, hk9, cm9, hkk9⟩ := (hO 0 0 0).1
    exact ⟨(fun q hq => by cases hq), k9, hk9, cm9, hkk9⟩
  have hK2 : va_K D cl (tys ++ [(cA, .array ty)]) s := ⟨hK.1, fun k9 x hx => by
    by_cases hl : k9 < tys.length
    · rw [List.getElem?_append_left hl] at hx
      exact hK.2 k9 x hx
    · rw [List.getElem?_append_right (by omega)] at hx
      have h0 : k9 - tys.length < 1 := (List.getElem?_eq_some_iff.mp hx).1
      rw [show k9 - tys.length = 0 by omega] at hx
      cases hx
      exact ⟨hAr, fA⟩⟩
  obtain ⟨t, a1, b1⟩ := kk H.size (fun i => H.size + 1 + i) cA F.heap (fun i j _ _ h => by have h9 : H.size + 1 + i = H.size + 1 + j := h; omega) hnl hK2 (by rw [← vr_rows hnm]; exact vr_lay hP2) (by rw [← vr_rows hnm]; exact vr_layD hD2) ⟨by rw [f1]; have := hS.1; omega, fun x h1 h2 => (hold x (Nat.lt_of_lt_of_le h1 hS.1)).trans (hS.2.1 x h1 h2), hS.2.2⟩ F rfl X'
  refine ⟨t, step t ?_, b1⟩
  have e : T.heap.size = H.size := by rw [hT]
  rw [e]
  exact a1
end VGM
/-! ===== END ===== -/

/-! ===== BEGIN exceptions that leave a method, and their catching by the caller (launches without stack traces) ===== -/
section VXA
/-! The laws vx_back, vx_callV, vx_callS, vx_callSW, vx_throw0, vx_throwS follow proofs of the library, with one case more: JvmDerived/Free/Laws.lean (Back.of_free), Shelf42/LK1.lean (callV, callS), Shelf/KitTraced.lean (throwNew0V, throwNewS). -/
/-- where a method has thrown q: the class by its name, the cell, what was written, the world -/
def vx_T (XC : String → State → State → Prop) (st : State) (q : Addr) (t : State) (mc ms : Nat) (free : Addr → Prop) : Prop :=
  ∃ (E : String) (ce : Cell) (L : List Loc), XC E st t ∧ t.heap[q]? = some ce ∧ ce.vm = .none ∧ st.vm.findClass E = some ce.cls ∧ st.WarmedH t.vm ∧ st.sameButNew ({ t with vm := st.vm } : State) L mc ms ∧ ∀ z ∈ L, free z.base
def vx_Q (Qc : Array Value → State → Outcome → State → Prop) (XC : String → State → State → Prop) (mc ms : Nat) (free : Addr → Prop) : Array Value → State → Outcome → State → Prop := fun a st o t =>
  (Qc a st o t ∧ ∃ L, FrameEnd st o t L mc ms ∧ ∀ q ∈ L, free q.base) ∨ ∃ q, o = .threw q ∧ vx_T XC st q t mc ms free
/-- a callee that returns or throws -/
def vx_Met (l : Launch) (y : MethodName) (ws : List Cond) (rm : Room) (Pc : Array Value → State → Prop) (Qc : Array Value → State → Outcome → State → Prop) (XC : String → State → State → Prop) (mc ms : Nat) (free : Addr → Prop) : Prop :=
  MetFree l y (headSpec ws rm) Pc (fun _ _ _ _ _ => True) (vx_Q Qc XC mc ms free)
def vx_Post (XC : String → State → State → Prop) (mc ms : Nat) (free : Addr → Prop) : Pt → Array Value → Addr → Pt → Prop := fun A a q B =>
  ∃ (g : JFrame) (mk : MethodId) (t : State) (L : List Loc) (E : String) (ce : Cell), B.U.heap = t.heap ∧ B.U.vm = t.vm ∧ XC E (A.U.calling g mk a) t ∧ t.heap[q]? = some ce ∧ ce.vm = .none ∧ A.U.vm.findClass E = some ce.cls ∧ B.locs = A.locs ++ L ∧ (∀ z ∈ L, free z.base) ∧ B.cells = A.cells + mc ∧ B.slots = A.slots + ms
def vx_Back (l : Launch) (R : Room) (p : Program) (e : Env) (below : List Frame) (s : State) (sargs : Array Value) (y : MethodName) (len W9 : Nat)
    (Pre : Pt → Array Value → Prop) (Post : Pt → Array Value → Option Value → Pt → Prop) (PostX : Pt → Array Value → Addr → Pt → Prop) : Prop :=
  ∀ (m : MethodId) (meth : Method) (c : Code) (A : Pt) (g : JFrame) (ig : Instr) (mk : MethodId) (a : Array Value),
    Stand p l e R s m sargs below meth c A.U A.locs A.cells A.slots → g.method = m → g.locals.size = c.maxLocals → decode c.code g.pc = .ok (ig, len) →
    2 * g.monitorRoom + (g.stack.map fun v => v.category).sum ≤ W9 → A.U.methodNamed? y = some mk → Pre A a →
    (∃ (v : Option Value) (B : Pt), Stand p l e R s m sargs below meth c B.U B.locs B.cells B.slots ∧ Post A a v B ∧
      Steps p.tables e below (doInvoke e (A.U.setTop g) [] mk a).1 (B.U.setTop { g with pc := g.pc + len, stack := v.toList ++ g.stack })) ∨
    (∃ (q : Addr) (B : Pt), Stand p l e R s m sargs below meth c B.U B.locs B.cells B.slots ∧ PostX A a q B ∧
      Steps p.tables e below (doInvoke e (A.U.setTop g) [] mk a).1 ((B.U.setTop g).pushFrame (.throwing q)))
section Payer
variable {l : Launch} {R : Room} {p : Program} {e : Env} {below : List Frame} {s : State} {sargs : Array Value} {y : MethodName} {len W9 : Nat}
theorem vx_back {ws : List Cond} {rm : Room} {Pc : Array Value → State → Prop} {Qc : Array Value → State → Outcome → State → Prop} {XC : String → State → State → Prop} {mc ms : Nat} {free : Addr → Prop} {bytes : ByteArray} {maxL : Nat} {ret : Option FieldType}
    (hM : vx_Met l y ws rm Pc Qc XC mc ms free) (hblind : FrameBlind Pc) (hrc : rm.cells = mc) (hrs : rm.slots = ms)
    (hframes : rm.frames + 1 ≤ R.frames) (hlocals : W9 + (maxL + 11) + rm.locals ≤ R.locals)
    (hws : ∀ w ∈ ws, ∀ a' U, s.WarmedH U.vm → w.before a' U = true) (hcode : Cond.code y bytes maxL ret ∈ ws) (hinit : ∀ a' U, s.WarmedH U.vm → (Cond.initialized y.cls).before a' U = true) :
    vx_Back l R p e below s sargs y len W9 (PreOf R mc ms Pc) (PostOf Qc mc ms free) (vx_Post XC mc ms free) := by
  intro m meth c A g ig mk a X hg hsize hdg hW hn hp
  have h1 : (headSpec ws rm).pre.before a A.U = true := atoms_intro fun w hw => hws w hw _ _ X.warmed
  have h2 : (Cond.code y bytes maxL ret).before a A.U = true := hws _ hcode _ _ X.warmed
  have h3 : (Cond.initialized y.cls).before a A.U = true := hinit _ _ X.warmed
  have h4 : A.cells + (headSpec ws rm).room.cells ≤ R.cells := by rw [show (headSpec ws rm).room.cells = mc from hrc]; exact hp.1
  have h5 : A.slots + (headSpec ws rm).room.slots ≤ R.slots := by rw [show (headSpec ws rm).room.slots = ms from hrs]; exact hp.2.1
  have hPc : Pc a (A.U.calling g mk a) := hblind _ _ _ _ hp.2.2
  obtain ⟨U, Ls, c0, s0⟩ := A
  dsimp only [Pt.U, Pt.locs, Pt.cells, Pt.slots] at h1 h2 h3 h4 h5 X hn hPc ⊢
  obtain ⟨methY, cY, hmY, hcY, -, hlY, -, -, -, -⟩ := Cond.code_spec hn h2
  obtain ⟨kY, hkY, -⟩ := className_of_methodNamed hn
  have hinitY : kY.init = .initialized := Cond.initialized_spec (findClass_of_methodNamed hn) hkY h3
  have h : At U g.method c below := by rw [hg]; exact X.here
  have hlocals9 : W9 + (maxL + 11) + (headSpec ws rm).room.locals ≤ R.locals := hlocals
  have happ : (headSpec ws rm).appliesLoose y e.platform (U.calling g mk a) = true :=
    Spec.appliesLoose_calling (g := g) h hdg hn hkY hinitY
      (X.room_calling (g := g) (R' := (headSpec ws rm).room) hsize hmY hcY hframes (by rw [hlY]; omega) h4 h5) h1
  obtain ⟨mid, hmid⟩ := h.above
  have hfr : (U.setTop g).frames = (.java g :: mid) ++ below := by rw [State.frames_setTop' g h.top, hmid]; rfl
  obtain ⟨o, s₂, hsteps, -, hend, hq⟩ := Steps.callFree hM p X.admits X.cas X.clock (acts := []) hfr happ hPc trivial
  have hq' : vx_Q Qc XC mc ms free a (U.calling g mk a) o s₂ := hq
  rw [State.frames_setTop' g h.top] at hend
  obtain ⟨g₀, hg0⟩ := Option.isSome_iff_exists.mp h.top
  obtain ⟨r, hr⟩ := State.topJava?_eq_some.mp hg0
  have hr' : (({ U with heap := s₂.heap, slotsUsed := s₂.slotsUsed } : State).setVm s₂.vm).frames = .java g₀ :: r := hr
  rcases hq' with ⟨hqc, L, hfe, hL⟩ | ⟨q, rfl, E, ce, L, hx, hce, hcv, hcl, hW₂, hsm, hL⟩
  · obtain ⟨⟨v, rfl⟩, hW₂, e2, q2, q3, q4, q5, q6⟩ := id hfe
    have e3 : s₂ = ({ (U.calling g mk a).setFrames s₂.frames with heap := s₂.heap, slotsUsed := s₂.slotsUsed } : State).setVm s₂.vm := by
      have : s₂ = ({ s₂ with vm := (U.calling g mk a).vm } : State).setVm s₂.vm := rfl
      rw [e2] at this
      exact this
    obtain ⟨c₂, i₂, len₂, hc₂, hd₂, hf₂⟩ := hend
    have hW' : U.WarmedH s₂.vm := hW₂
    have hcc : c₂ = c := by
      have h1 : s₂.code? g.method = U.code? g.method := by
        rw [State.code?_eq, State.code?_eq, hW'.alike.method?]
      exact Option.some.inj (hc₂.symm.trans (h1.trans h.code))
    subst hcc
    have hlen : len₂ = len := by rw [hdg] at hd₂; cases hd₂; rfl
    subst hlen
    have hs₂ : s₂ = (({ U with heap := s₂.heap, slotsUsed := s₂.slotsUsed } : State).setVm s₂.vm).setTop { g with pc := g.pc + len₂, stack := v.toList ++ g.stack } := by
      refine e3.trans ?_
      rw [hf₂, State.calling_eq h.top, State.setFrames_setFrames, State.setTop_of_frames _ hr', hr]
      rfl
    have hsame : U.sameButNew ({ U with heap := s₂.heap, slotsUsed := s₂.slotsUsed } : State) L mc ms := by
      refine ⟨?_, q2, q3, q4, q5, q6⟩
      obtain ⟨t, ht, -⟩ := State.frames_cons hr
      show ({ U with heap := s₂.heap, slotsUsed := s₂.slotsUsed } : State) = { U.setFrames U.frames with heap := s₂.heap, slotsUsed := s₂.slotsUsed }
      rw [State.setFrames_self ht]
    subst hg
    refine Or.inl ⟨v, ⟨(({ U with heap := s₂.heap, slotsUsed := s₂.slotsUsed } : State).setVm s₂.vm), Ls ++ L, c0 + mc, s0 + ms⟩,
      ⟨X.admits, X.cas, X.clock, X.frames, X.room, X.hears, X.method, X.code, (X.here.setHeapUsed s₂.heap s₂.slotsUsed).setVm hW'.alike, X.tail, State.WarmedH.trans X.warmed hW', X.limits, X.bytes, X.same.trans (hsame.setVm s.vm)⟩,
      ⟨g, mk, s₂, L, rfl, rfl, hqc, rfl, hL, rfl, rfl⟩, ?_⟩
    show Steps p.tables e below _ ((({ U with heap := s₂.heap, slotsUsed := s₂.slotsUsed } : State).setVm s₂.vm).setTop { g with pc := g.pc + len₂, stack := v.toList ++ g.stack })
    rw [← hs₂]
    exact hsteps
  · obtain ⟨e2, q2, q3, q4, q5, q6⟩ := id hsm
    have e3 : s₂ = ({ (U.calling g mk a).setFrames s₂.frames with heap := s₂.heap, slotsUsed := s₂.slotsUsed } : State).setVm s₂.vm := by
      have : s₂ = ({ s₂ with vm := (U.calling g mk a).vm } : State).setVm s₂.vm := rfl
      rw [e2] at this
      exact this
    have hf₂ : s₂.frames = .throwing q :: .java g :: U.frames.tail := hend
    have hW' : U.WarmedH s₂.vm := hW₂
    have hs₂ : s₂ = ((({ U with heap := s₂.heap, slotsUsed := s₂.slotsUsed } : State).setVm s₂.vm).setTop g).pushFrame (.throwing q) := by
      refine e3.trans ?_
      rw [hf₂, State.calling_eq h.top, State.setFrames_setFrames, State.pushFrame, State.frames_setTop _ hr', State.setTop_of_frames _ hr', State.setFrames_setFrames, hr]
      rfl
    have hsame : U.sameButNew ({ U with heap := s₂.heap, slotsUsed := s₂.slotsUsed } : State) L mc ms := by
      refine ⟨?_, q2, q3, q4, q5, q6⟩
      obtain ⟨t, ht, -⟩ := State.frames_cons hr
      show ({ U with heap := s₂.heap, slotsUsed := s₂.slotsUsed } : State) = { U.setFrames U.frames with heap := s₂.heap, slotsUsed := s₂.slotsUsed }
      rw [State.setFrames_self ht]
    subst hg
    refine Or.inr ⟨q, ⟨(({ U with heap := s₂.heap, slotsUsed := s₂.slotsUsed } : State).setVm s₂.vm), Ls ++ L, c0 + mc, s0 + ms⟩,
      ⟨X.admits, X.cas, X.clock, X.frames, X.room, X.hears, X.method, X.code, (X.here.setHeapUsed s₂.heap s₂.slotsUsed).setVm hW'.alike, X.tail, State.WarmedH.trans X.warmed hW', X.limits, X.bytes, X.same.trans (hsame.setVm s.vm)⟩,
      ⟨g, mk, s₂, L, E, ce, rfl, rfl, hx, hce, hcv, hcl, rfl, hL, rfl, rfl⟩, ?_⟩
    show Steps p.tables e below _ (((({ U with heap := s₂.heap, slotsUsed := s₂.slotsUsed } : State).setVm s₂.vm).setTop g).pushFrame (.throwing q))
    rw [← hs₂]
    exact hsteps
end Payer
section Calls
variable {p : Program} {l : Launch} {e : Env} {R : Room} {s : State} {m : MethodId} {args : Array Value} {below : List Frame} {meth : Method} {c : Code} {T : State} {locs : List Loc} {cells slots : Nat}
theorem vx_callV (X : Stand p l e R s m args below meth c T locs cells slots) (hexec : p.tables.exec = Jvm.exec) {own C : String} {index : Nat} {y : MethodName} {bytes : ByteArray} {maxL : Nat} {ret : Option FieldType}
    (hown : s.vm.findClass own = some m.cls) (hlink : (Cond.methodLink own index y).before args s = true) (hinst : (Cond.instanceMethod y).before args s = true) (hsel : (Cond.selects C y y).before args s = true)
    (hcode : (Cond.code y bytes maxL ret).before args s = true) (hy : y.cls ≠ "java/lang/invoke/MethodHandle" ∧ y.cls ≠ "java/lang/invoke/VarHandle")
    {W9 : Nat} {Pre : Pt → Array Value → Prop} {Post : Pt → Array Value → Option Value → Pt → Prop} {PostX : Pt → Array Value → Addr → Pt → Prop} (hK : vx_Back l R p e below s args y 3 W9 Pre Post PostX)
    {b : Addr} {cellB : Cell} (hcell : T.heap[b]? = some cellB) (hobj : cellB.vm.isStatics = false) (hcls : s.vm.findClass C = some cellB.cls)
    {g : JFrame} (hg : g.method = m) (hsize : g.locals.size = c.maxLocals) {argsL rest : List Value} (hlen : ∀ sig, parseMethodDescriptor y.desc = some sig → argsL.length = sig.parameters.length)
    (hstack : g.stack = argsL.reverse ++ .ref b :: rest) (hW : 2 * g.monitorRoom + (rest.map fun v => v.category).sum ≤ W9) (hdg : decode c.code g.pc = .ok (.invokevirtual index, 3))
    (hpre : ∀ vm₁, s.WarmedH vm₁ → Pre ⟨T.setVm vm₁, locs, cells, slots⟩ (Value.ref b :: argsL).toArray) :
    (∃ (v : Option Value) (vm₁ : Vm) (B : Pt), s.WarmedH vm₁ ∧ Stand p l e R s m args below meth c B.U B.locs B.cells B.slots ∧ Post ⟨T.setVm vm₁, locs, cells, slots⟩ (Value.ref b :: argsL).toArray v B ∧
      ∀ target, Steps p.tables e below (B.U.setTop { g with pc := g.pc + 3, stack := v.toList ++ rest }) target → Steps p.tables e below (T.setTop g) target) ∨
    (∃ (q : Addr) (vm₁ : Vm) (B : Pt), s.WarmedH vm₁ ∧ Stand p l e R s m args below meth c B.U B.locs B.cells B.slots ∧ PostX ⟨T.setVm vm₁, locs, cells, slots⟩ (Value.ref b :: argsL).toArray q B ∧
      Steps p.tables e below (T.setTop g) ((B.U.setTop { g with stack := rest }).pushFrame (.throwing q))) := by
  obtain ⟨mk, methM, hnamed, hmethM, hstM, habM⟩ := Cond.instanceMethod_spec hinst
  obtain ⟨methM', cM, hmethM', -, -, -, -, -, -, hsigM⟩ := Cond.code_spec hnamed hcode
  cases hmethM.symm.trans hmethM'
  obtain ⟨c2, r2, m2, q1, q2, q3, q4, kP, hkP, hkPi⟩ := Cond.selects_spec hsel
  cases hcls.symm.trans q1
  cases (State.methodFound?_of_named hnamed hy).symm.trans q2
  cases hnamed.symm.trans q3
  have hselP : selectMethod e.platform s.vm cellB.cls mk = .method mk := by rw [Launch.admits_selectMethod X.admits]; exact q4
  obtain ⟨vm₁, X₁, hstep₁⟩ := X.invokevirtual hexec hown hlink hnamed hmethM hstM hkP hkPi hy (a := b) (cell := cellB) hcell
    (fun z h => by rw [h] at hobj; cases hobj) hselP hmethM habM hkP hkPi (g := g) hg (argsL := argsL) (rest := rest) (hlen _ hsigM) hstack hdg
  rcases hK m meth c ⟨T.setVm vm₁, locs, cells, slots⟩ { g with stack := rest } (.invokevirtual index) mk (Value.ref b :: argsL).toArray X₁ hg hsize hdg hW (X₁.named hnamed) (hpre vm₁ X₁.warmed) with ⟨v, B, X', hpost, hsteps⟩ | ⟨q, B, X', hpost, hsteps⟩
  · exact Or.inl ⟨v, vm₁, B, X₁.warmed, X', hpost, fun target h => hstep₁ _ fun acts => by rw [doInvoke_state]; exact hsteps.trans h⟩
  · exact Or.inr ⟨q, vm₁, B, X₁.warmed, X', hpost, hstep₁ _ fun acts => by rw [doInvoke_state]; exact hsteps⟩
theorem vx_callS (X : Stand p l e R s m args below meth c T locs cells slots) (hexec : p.tables.exec = Jvm.exec) {own : String} {index : Nat} {y : MethodName} {bytes : ByteArray} {maxL : Nat} {ret : Option FieldType}
    (hown : s.vm.findClass own = some m.cls) (hlink : (Cond.methodLink own index y).before args s = true) (hstat : (Cond.static y).before args s = true) (hinit : (Cond.initialized y.cls).before args s = true)
    (hcode : (Cond.code y bytes maxL ret).before args s = true) (hy : y.cls ≠ "java/lang/invoke/MethodHandle" ∧ y.cls ≠ "java/lang/invoke/VarHandle")
    {W9 : Nat} {Pre : Pt → Array Value → Prop} {Post : Pt → Array Value → Option Value → Pt → Prop} {PostX : Pt → Array Value → Addr → Pt → Prop} (hK : vx_Back l R p e below s args y 3 W9 Pre Post PostX)
    {g : JFrame} (hg : g.method = m) (hsize : g.locals.size = c.maxLocals) {argsL rest : List Value} (hlen : ∀ sig, parseMethodDescriptor y.desc = some sig → argsL.length = sig.parameters.length)
    (hstack : g.stack = argsL.reverse ++ rest) (hW : 2 * g.monitorRoom + (rest.map fun v => v.category).sum ≤ W9) (hdg : decode c.code g.pc = .ok (.invokestatic index, 3))
    (hpre : ∀ vm₁, s.WarmedH vm₁ → Pre ⟨T.setVm vm₁, locs, cells, slots⟩ argsL.toArray) :
    (∃ (v : Option Value) (vm₁ : Vm) (B : Pt), s.WarmedH vm₁ ∧ Stand p l e R s m args below meth c B.U B.locs B.cells B.slots ∧ Post ⟨T.setVm vm₁, locs, cells, slots⟩ argsL.toArray v B ∧
      ∀ target, Steps p.tables e below (B.U.setTop { g with pc := g.pc + 3, stack := v.toList ++ rest }) target → Steps p.tables e below (T.setTop g) target) ∨
    (∃ (q : Addr) (vm₁ : Vm) (B : Pt), s.WarmedH vm₁ ∧ Stand p l e R s m args below meth c B.U B.locs B.cells B.slots ∧ PostX ⟨T.setVm vm₁, locs, cells, slots⟩ argsL.toArray q B ∧
      Steps p.tables e below (T.setTop g) ((B.U.setTop { g with stack := rest }).pushFrame (.throwing q))) := by
  obtain ⟨mk, hnamed⟩ := Cond.code_named hcode
  obtain ⟨methM, cM, hmethM, -, -, -, -, -, -, hsigM⟩ := Cond.code_spec hnamed hcode
  have hstatic : methM.isStatic = true := Cond.static_spec hnamed hmethM hstat
  obtain ⟨kP, hkP, -⟩ := className_of_methodNamed hnamed
  have hinitP : kP.init = .initialized := Cond.initialized_spec (findClass_of_methodNamed hnamed) hkP hinit
  obtain ⟨vm₁, X₁, hstep₁⟩ := X.invokestatic hexec hown hlink hnamed hmethM hstatic hkP hinitP hy (g := g) hg (argsL := argsL) (rest := rest) (hlen _ hsigM) hstack hdg
  rcases hK m meth c ⟨T.setVm vm₁, locs, cells, slots⟩ { g with stack := rest } (.invokestatic index) mk argsL.toArray X₁ hg hsize hdg hW (X₁.named hnamed) (hpre vm₁ X₁.warmed) with ⟨v, B, X', hpost, hsteps⟩ | ⟨q, B, X', hpost, hsteps⟩
  · exact Or.inl ⟨v, vm₁, B, X₁.warmed, X', hpost, fun target h => hstep₁ _ fun acts => by rw [doInvoke_state]; exact hsteps.trans h⟩
  · exact Or.inr ⟨q, vm₁, B, X₁.warmed, X', hpost, hstep₁ _ fun acts => by rw [doInvoke_state]; exact hsteps⟩
end Calls
theorem vx_cls {s : State} {T : State} {vm₁ : Vm} {E : String} {k : ClassId} (hW : s.WarmedH vm₁) (h : (T.setVm vm₁).vm.findClass E = some k) : s.vm.findClass E = some k := by
  have h1 : vm₁.findClass E = some k := h
  rw [hW.alike.findClass] at h1
  exact h1
/-- the method's frame g, with q thrown over it -/
def vx_W (p : Program) (l : Launch) (e : Env) (R : Room) (s : State) (m : MethodId) (args : Array Value) (below : List Frame) (meth : Method) (c : Code) (H : Heap) (locs : List Loc) (cells slots : Nat) (Q : State → Prop) (g : JFrame) (q : Addr) : Prop :=
  ∀ T : State, T.heap = H → Stand p l e R s m args below meth c T locs cells slots → ∃ t, Steps p.tables e below ((T.setTop g).pushFrame (.throwing q)) t ∧ Q t
def vx_Run (p : Program) (l : Launch) (e : Env) (R : Room) (s : State) (m : MethodId) (args : Array Value) (below : List Frame) (meth : Method) (c : Code) (H : Heap) (locs : List Loc) (cells slots mc ms : Nat) (g : JFrame) (rest : List Value) (Qa : State → Outcome → State → Prop) (XC : String → State → State → Prop) (free : Addr → Prop) : Prop :=
  ∀ T : State, T.heap = H → Stand p l e R s m args below meth c T locs cells slots →
    (∃ (v : Option Value) (st₀ t T' : State) (L : List Loc), st₀.heap = H ∧ Stand p l e R s m args below meth c T' (locs ++ L) (cells + mc) (slots + ms) ∧ (∀ q ∈ L, free q.base) ∧ T'.heap = t.heap ∧ T'.vm = t.vm ∧ Qa st₀ (.returned v) t ∧
      Goes p e below T g T' { g with pc := g.pc + 3, stack := v.toList ++ rest }) ∨
    (∃ (q : Addr) (st₀ t T' : State) (L : List Loc) (E : String) (ce : Cell), st₀.heap = H ∧ Stand p l e R s m args below meth c T' (locs ++ L) (cells + mc) (slots + ms) ∧ (∀ z ∈ L, free z.base) ∧ T'.heap = t.heap ∧ T'.vm = t.vm ∧ XC E st₀ t ∧ t.heap[q]? = some ce ∧ ce.vm = .none ∧ s.vm.findClass E = some ce.cls ∧
      Steps p.tables e below (T.setTop g) ((T'.setTop { g with stack := rest }).pushFrame (.throwing q)))
def vx_X {S : Type} (px : S → Prop) (B : String → S → State → Prop) (A : Nat → Prop) : String → State → State → Prop := fun E st t => ∃ u : S, px u ∧ B E u t ∧ va_F A st t
section Runs
variable {p : Program} {l : Launch} {e : Env} {R : Room} {s : State} {m : MethodId} {args : Array Value} {below : List Frame} {meth : Method} {c : Code} {H : Heap} {locs : List Loc} {cells slots : Nat}
variable {y : MethodName} {bytes cc : ByteArray} {maxL nL mc ms n index : Nat} {ret : Option FieldType} {ws : List Cond} {rm : Room} {Pc : Array Value → State → Prop} {Qc : Array Value → State → Outcome → State → Prop} {XC : String → State → State → Prop} {free : Addr → Prop} {Ts : List Cond} {own C : String} {b : Addr} {As rest : List Value} {g : JFrame}
theorem vx_callBack (cb : CallB R s args own index y bytes maxL ret ws rm mc ms n) (hM : vx_Met l y ws rm Pc Qc XC mc ms free) (hbl : FrameBlind Pc) : vx_Back l R p e below s args y 3 8 (PreOf R mc ms Pc) (PostOf Qc mc ms free) (vx_Post XC mc ms free) := by
  obtain ⟨hrc, hrs, hfr, hlo, hws, hcw, -, hini, -⟩ := cb
  exact vx_back (bytes := bytes) (maxL := maxL) (ret := ret) hM hbl hrc hrs hfr hlo hws hcw (fun a' U hW => word_at hW (Or.inl (by first | rfl | simp [Cond.onTables, Cond.keeps, Cond.steady])) hini)
theorem vx_runV (S : CallFix p m c cc nL s args Ts own) (hM : vx_Met l y ws rm Pc Qc XC mc ms free) (cw : CallW R s args own C index y bytes maxL ret ws rm mc ms n) (hp : PreV s H C b Pc As)
    (hg : g.method = m) (hn : As.length = n) (hsize : g.locals.size = nL) (hstack : g.stack = As.reverse ++ .ref b :: rest) (hW : 2 * g.monitorRoom + (rest.map fun v => v.category).sum ≤ 8) (hdg : decode cc g.pc = .ok (.invokevirtual index, 3)) (hf : cells + mc ≤ R.cells ∧ slots + ms ≤ R.slots) :
    vx_Run p l e R s m args below meth c H locs cells slots mc ms g rest (Qc (Value.ref b :: As).toArray) XC free := by
  have hK : vx_Back l R p e below s args y 3 8 (PreOf R mc ms Pc) (PostOf Qc mc ms free) (vx_Post XC mc ms free) := vx_callBack cw.1 hM hp.1
  obtain ⟨⟨-, -, -, -, -, -, hcode, -, hy, hlen, hl⟩, hin, hse⟩ := cw
  obtain ⟨hx, hb, hml, ho, -⟩ := S
  obtain ⟨-, ⟨cellB, hcB, hoB, hclB⟩, hPc⟩ := hp
  intro T hT X
  rcases vx_callV X hx (C := C) (bytes := bytes) (maxL := maxL) (ret := ret) ho hl hin hse hcode hy hK (by rw [hT]; exact hcB) hoB hclB hg (hsize.trans hml.symm) (argsL := As) (rest := rest) (fun sig h => hn.trans (hlen sig h)) hstack hW (by rw [hb]; exact hdg)
    (fun vm₁ hW₁ => ⟨hf.1, hf.2, hPc (T.setVm vm₁) hT hW₁⟩) with ⟨v, vm₁, ⟨U', l2, c2, s2⟩, hW₁, X', ⟨g', mk, t, L, e1, e2, hq, h1, hL, h2, h3⟩, st⟩ | ⟨q, vm₁, ⟨U', l2, c2, s2⟩, hW₁, X', ⟨g', mk, t, L, E, ce, e1, e2, hq, hce, hcv, hcl, h1, hL, h2, h3⟩, st⟩
  · dsimp only [Pt.U, Pt.locs, Pt.cells, Pt.slots] at X' e1 e2 h1 h2 h3 st
    subst h1; subst h2; subst h3
    exact Or.inl ⟨v, (T.setVm vm₁).calling g' mk (Value.ref b :: As).toArray, t, U', L, hT, X', hL, e1, e2, hq, st⟩
  · dsimp only [Pt.U, Pt.locs, Pt.cells, Pt.slots] at X' e1 e2 h1 h2 h3 st hcl
    subst h1; subst h2; subst h3
    exact Or.inr ⟨q, (T.setVm vm₁).calling g' mk (Value.ref b :: As).toArray, t, U', L, E, ce, hT, X', hL, e1, e2, hq, hce, hcv, vx_cls hW₁ hcl, st⟩
theorem vx_runS (S : CallFix p m c cc nL s args Ts own) (hM : vx_Met l y ws rm Pc Qc XC mc ms free) (cw : CallB R s args own index y bytes maxL ret ws rm mc ms n ∧ (Cond.static y).before args s = true) (hp : PreS s H Pc As)
    (hg : g.method = m) (hn : As.length = n) (hsize : g.locals.size = nL) (hstack : g.stack = As.reverse ++ rest) (hW : 2 * g.monitorRoom + (rest.map fun v => v.category).sum ≤ 8) (hdg : decode cc g.pc = .ok (.invokestatic index, 3)) (hf : cells + mc ≤ R.cells ∧ slots + ms ≤ R.slots) :
    vx_Run p l e R s m args below meth c H locs cells slots mc ms g rest (Qc As.toArray) XC free := by
  have hK : vx_Back l R p e below s args y 3 8 (PreOf R mc ms Pc) (PostOf Qc mc ms free) (vx_Post XC mc ms free) := vx_callBack cw.1 hM hp.1
  obtain ⟨⟨-, -, -, -, -, -, hcode, hini, hy, hlen, hl⟩, hstt⟩ := cw
  obtain ⟨hx, hb, hml, ho, -⟩ := S
  intro T hT X
  rcases vx_callS X hx (bytes := bytes) (maxL := maxL) (ret := ret) ho hl hstt hini hcode hy hK hg (hsize.trans hml.symm) (argsL := As) (rest := rest) (fun sig h => hn.trans (hlen sig h)) hstack hW (by rw [hb]; exact hdg)
    (fun vm₁ hW₁ => ⟨hf.1, hf.2, hp.2 (T.setVm vm₁) hT hW₁⟩) with ⟨v, vm₁, ⟨U', l2, c2, s2⟩, hW₁, X', ⟨g', mk, t, L, e1, e2, hq, h1, hL, h2, h3⟩, st⟩ | ⟨q, vm₁, ⟨U', l2, c2, s2⟩, hW₁, X', ⟨g', mk, t, L, E, ce, e1, e2, hq, hce, hcv, hcl, h1, hL, h2, h3⟩, st⟩
  · dsimp only [Pt.U, Pt.locs, Pt.cells, Pt.slots] at X' e1 e2 h1 h2 h3 st
    subst h1; subst h2; subst h3
    exact Or.inl ⟨v, (T.setVm vm₁).calling g' mk As.toArray, t, U', L, hT, X', hL, e1, e2, hq, st⟩
  · dsimp only [Pt.U, Pt.locs, Pt.cells, Pt.slots] at X' e1 e2 h1 h2 h3 st hcl
    subst h1; subst h2; subst h3
    exact Or.inr ⟨q, (T.setVm vm₁).calling g' mk As.toArray, t, U', L, E, ce, hT, X', hL, e1, e2, hq, hce, hcv, vx_cls hW₁ hcl, st⟩
end Runs
section Rows
variable {p : Program} {l : Launch} {e : Env} {R : Room} {s : State} {m : MethodId} {args : Array Value} {below : List Frame} {meth : Method} {c : Code} {H : Heap} {locs : List Loc} {cells slots : Nat} {Q : State → Prop}
variable {mc ms : Nat} {free : Addr → Prop} {A0 A1 : Nat → Prop} {H0 : Heap} {a : Array Value} {pc : Nat} {ls : Array Slot} {st0 rest : List Value}
theorem vx_keep {st₀ t T' : State} {L : List Loc} (h0 : st₀.heap = H) (e1 : T'.heap = t.heap) (hS : va_S A0 H0 H locs) (hA : ∀ q, q < H.size → A1 q → A0 q) (hf : ∀ q, free q → A0 q) (hL : ∀ q ∈ L, free q.base) (hF : va_F A1 st₀ t) :
    H.size ≤ T'.heap.size ∧ (∀ q : Nat, q < H.size → ¬ A1 q → T'.heap[q]? = H[q]?) ∧ va_S A0 H0 T'.heap (locs ++ L) := by
  obtain ⟨hz, hk⟩ := hF
  rw [h0] at hz hk
  exact ⟨by rw [e1]; exact hz, fun q h1 h2 => by rw [e1]; exact hk q h1 h2,
    ⟨Nat.le_trans hS.1 (by rw [e1]; exact hz), fun q h1 h2 => by rw [e1, hk q (Nat.lt_of_lt_of_le h1 hS.1) (fun z => h2 (hA q (Nat.lt_of_lt_of_le h1 hS.1) z))]; exact hS.2.1 q h1 h2, fun q hq => by
      rcases List.mem_append.mp hq with h | h
      · exact hS.2.2 q h
      · exact hf _ (hL q h)⟩⟩
theorem vx_calli {S SX : Type} {post : Int32 → S → Prop} {px : SX → Prop} {B : S → State → Prop} {BX : String → SX → State → Prop} {AX : Nat → Prop} (hr : vx_Run p l e R s m args below meth c H locs cells slots mc ms (F0 m pc ls st0) rest (va_Qi post B A1 a) (vx_X px BX AX) free) (hS : va_S A0 H0 H locs) (hA : ∀ q, q < H.size → A1 q → A0 q) (hf : ∀ q, free q → A0 q) (hAX : ∀ q, q < H.size → AX q → A0 q)
    (kx : ∀ (E : String) (ce : Cell) (q9 : Addr) (u : SX) (t : State) (H1 : Heap) (locs1 : List Loc), t.heap = H1 → s.vm.Alike t.vm → px u → BX E u t → H.size ≤ H1.size → (∀ q : Nat, q < H.size → ¬ AX q → H1[q]? = H[q]?) → va_S A0 H0 H1 locs1 → H1[q9]? = some ce → ce.vm = .none → s.vm.findClass E = some ce.cls → vx_W p l e R s m args below meth c H1 locs1 (cells + mc) (slots + ms) Q (F0 m pc ls rest) q9)
    (kk : ∀ (r : Int32) (u : S) (t : State) (H1 : Heap) (locs1 : List Loc), t.heap = H1 → s.vm.Alike t.vm → post r u → B u t → H.size ≤ H1.size → (∀ q : Nat, q < H.size → ¬ A1 q → H1[q]? = H[q]?) → va_S A0 H0 H1 locs1 → W p l e R s m args below meth c H1 locs1 (cells + mc) (slots + ms) Q (F0 m (pc + 3) ls (.int r :: rest))) : W p l e R s m args below meth c H locs cells slots Q (F0 m pc ls st0) := by
  intro T hT X
  rcases hr T hT X with ⟨v, st₀, t, T', L, h0, X', hL, e1, e2, ⟨⟨r, u, hv, hp, hb⟩, hF⟩, st⟩ | ⟨q, st₀, t, T', L, E, ce, h0, X', hL, e1, e2, ⟨u, hp, hb, hF⟩, hce, hcv, hcl, st⟩
  · cases hv
    obtain ⟨k1, k2, k3⟩ := vx_keep h0 e1 hS hA hf hL hF
    obtain ⟨t2, a1, b1⟩ := kk r u t T'.heap (locs ++ L) e1.symm (by rw [← e2]; exact X'.warmed.alike) hp hb k1 k2 k3 T' rfl X'
    exact ⟨t2, st t2 a1, b1⟩
  · obtain ⟨k1, k2, k3⟩ := vx_keep h0 e1 hS hAX hf hL hF
    obtain ⟨t2, a1, b1⟩ := kx E ce q u t T'.heap (locs ++ L) e1.symm (by rw [← e2]; exact X'.warmed.alike) hp hb k1 k2 k3 (by rw [e1]; exact hce) hcv hcl T' rfl X'
    exact ⟨t2, st.trans a1, b1⟩
theorem vx_calll {S SX : Type} {post : Int64 → S → Prop} {px : SX → Prop} {B : S → State → Prop} {BX : String → SX → State → Prop} {AX : Nat → Prop} (hr : vx_Run p l e R s m args below meth c H locs cells slots mc ms (F0 m pc ls st0) rest (va_Ql post B A1 a) (vx_X px BX AX) free) (hS : va_S A0 H0 H locs) (hA : ∀ q, q < H.size → A1 q → A0 q) (hf : ∀ q, free q → A0 q) (hAX : ∀ q, q < H.size → AX q → A0 q)
    (kx : ∀ (E : String) (ce : Cell) (q9 : Addr) (u : SX) (t : State) (H1 : Heap) (locs1 : List Loc), t.heap = H1 → s.vm.Alike t.vm → px u → BX E u t → H.size ≤ H1.size → (∀ q : Nat, q < H.size → ¬ AX q → H1[q]? = H[q]?) → va_S A0 H0 H1 locs1 → H1[q9]? = some ce → ce.vm = .none → s.vm.findClass E = some ce.cls → vx_W p l e R s m args below meth c H1 locs1 (cells + mc) (slots + ms) Q (F0 m pc ls rest) q9)
    (kk : ∀ (r : Int64) (u : S) (t : State) (H1 : Heap) (locs1 : List Loc), t.heap = H1 → s.vm.Alike t.vm → post r u → B u t → H.size ≤ H1.size → (∀ q : Nat, q < H.size → ¬ A1 q → H1[q]? = H[q]?) → va_S A0 H0 H1 locs1 → W p l e R s m args below meth c H1 locs1 (cells + mc) (slots + ms) Q (F0 m (pc + 3) ls (.long r :: rest))) : W p l e R s m args below meth c H locs cells slots Q (F0 m pc ls st0) := by
  intro T hT X
  rcases hr T hT X with ⟨v, st₀, t, T', L, h0, X', hL, e1, e2, ⟨⟨r, u, hv, hp, hb⟩, hF⟩, st⟩ | ⟨q, st₀, t, T', L, E, ce, h0, X', hL, e1, e2, ⟨u, hp, hb, hF⟩, hce, hcv, hcl, st⟩
  · cases hv
    obtain ⟨k1, k2, k3⟩ := vx_keep h0 e1 hS hA hf hL hF
    obtain ⟨t2, a1, b1⟩ := kk r u t T'.heap (locs ++ L) e1.symm (by rw [← e2]; exact X'.warmed.alike) hp hb k1 k2 k3 T' rfl X'
    exact ⟨t2, st t2 a1, b1⟩
  · obtain ⟨k1, k2, k3⟩ := vx_keep h0 e1 hS hAX hf hL hF
    obtain ⟨t2, a1, b1⟩ := kx E ce q u t T'.heap (locs ++ L) e1.symm (by rw [← e2]; exact X'.warmed.alike) hp hb k1 k2 k3 (by rw [e1]; exact hce) hcv hcl T' rfl X'
    exact ⟨t2, st.trans a1, b1⟩
theorem vx_callf {S SX : Type} {post : UInt32 → S → Prop} {px : SX → Prop} {B : S → State → Prop} {BX : String → SX → State → Prop} {AX : Nat → Prop} (hr : vx_Run p l e R s m args below meth c H locs cells slots mc ms (F0 m pc ls st0) rest (va_Qf post B A1 a) (vx_X px BX AX) free) (hS : va_S A0 H0 H locs) (hA : ∀ q, q < H.size → A1 q → A0 q) (hf : ∀ q, free q → A0 q) (hAX : ∀ q, q < H.size → AX q → A0 q)
    (kx : ∀ (E : String) (ce : Cell) (q9 : Addr) (u : SX) (t : State) (H1 : Heap) (locs1 : List Loc), t.heap = H1 → s.vm.Alike t.vm → px u → BX E u t → H.size ≤ H1.size → (∀ q : Nat, q < H.size → ¬ AX q → H1[q]? = H[q]?) → va_S A0 H0 H1 locs1 → H1[q9]? = some ce → ce.vm = .none → s.vm.findClass E = some ce.cls → vx_W p l e R s m args below meth c H1 locs1 (cells + mc) (slots + ms) Q (F0 m pc ls rest) q9)
    (kk : ∀ (r : UInt32) (u : S) (t : State) (H1 : Heap) (locs1 : List Loc), t.heap = H1 → s.vm.Alike t.vm → post r u → B u t → H.size ≤ H1.size → (∀ q : Nat, q < H.size → ¬ A1 q → H1[q]? = H[q]?) → va_S A0 H0 H1 locs1 → W p l e R s m args below meth c H1 locs1 (cells + mc) (slots + ms) Q (F0 m (pc + 3) ls (.float r :: rest))) : W p l e R s m args below meth c H locs cells slots Q (F0 m pc ls st0) := by
  intro T hT X
  rcases hr T hT X with ⟨v, st₀, t, T', L, h0, X', hL, e1, e2, ⟨⟨r, u, hv, hp, hb⟩, hF⟩, st⟩ | ⟨q, st₀, t, T', L, E, ce, h0, X', hL, e1, e2, ⟨u, hp, hb, hF⟩, hce, hcv, hcl, st⟩
  · cases hv
    obtain ⟨k1, k2, k3⟩ := vx_keep h0 e1 hS hA hf hL hF
    obtain ⟨t2, a1, b1⟩ := kk r u t T'.heap (locs ++ L) e1.symm (by rw [← e2]; exact X'.warmed.alike) hp hb k1 k2 k3 T' rfl X'
    exact ⟨t2, st t2 a1, b1⟩
  · obtain ⟨k1, k2, k3⟩ := vx_keep h0 e1 hS hAX hf hL hF
    obtain ⟨t2, a1, b1⟩ := kx E ce q u t T'.heap (locs ++ L) e1.symm (by rw [← e2]; exact X'.warmed.alike) hp hb k1 k2 k3 (by rw [e1]; exact hce) hcv hcl T' rfl X'
    exact ⟨t2, st.trans a1, b1⟩
theorem vx_calld {S SX : Type} {post : UInt64 → S → Prop} {px : SX → Prop} {B : S → State → Prop} {BX : String → SX → State → Prop} {AX : Nat → Prop} (hr : vx_Run p l e R s m args below meth c H locs cells slots mc ms (F0 m pc ls st0) rest (va_Qd post B A1 a) (vx_X px BX AX) free) (hS : va_S A0 H0 H locs) (hA : ∀ q, q < H.size → A1 q → A0 q) (hf : ∀ q, free q → A0 q) (hAX : ∀ q, q < H.size → AX q → A0 q)
    (kx : ∀ (E : String) (ce : Cell) (q9 : Addr) (u : SX) (t : State) (H1 : Heap) (locs1 : List Loc), t.heap = H1 → s.vm.Alike t.vm → px u → BX E u t → H.size ≤ H1.size → (∀ q : Nat, q < H.size → ¬ AX q → H1[q]? = H[q]?) → va_S A0 H0 H1 locs1 → H1[q9]? = some ce → ce.vm = .none → s.vm.findClass E = some ce.cls → vx_W p l e R s m args below meth c H1 locs1 (cells + mc) (slots + ms) Q (F0 m pc ls rest) q9)
    (kk : ∀ (r : UInt64) (u : S) (t : State) (H1 : Heap) (locs1 : List Loc), t.heap = H1 → s.vm.Alike t.vm → post r u → B u t → H.size ≤ H1.size → (∀ q : Nat, q < H.size → ¬ A1 q → H1[q]? = H[q]?) → va_S A0 H0 H1 locs1 → W p l e R s m args below meth c H1 locs1 (cells + mc) (slots + ms) Q (F0 m (pc + 3) ls (.double r :: rest))) : W p l e R s m args below meth c H locs cells slots Q (F0 m pc ls st0) := by
  intro T hT X
  rcases hr T hT X with ⟨v, st₀, t, T', L, h0, X', hL, e1, e2, ⟨⟨r, u, hv, hp, hb⟩, hF⟩, st⟩ | ⟨q, st₀, t, T', L, E, ce, h0, X', hL, e1, e2, ⟨u, hp, hb, hF⟩, hce, hcv, hcl, st⟩
  · cases hv
    obtain ⟨k1, k2, k3⟩ := vx_keep h0 e1 hS hA hf hL hF
    obtain ⟨t2, a1, b1⟩ := kk r u t T'.heap (locs ++ L) e1.symm (by rw [← e2]; exact X'.warmed.alike) hp hb k1 k2 k3 T' rfl X'
    exact ⟨t2, st t2 a1, b1⟩
  · obtain ⟨k1, k2, k3⟩ := vx_keep h0 e1 hS hAX hf hL hF
    obtain ⟨t2, a1, b1⟩ := kx E ce q u t T'.heap (locs ++ L) e1.symm (by rw [← e2]; exact X'.warmed.alike) hp hb k1 k2 k3 (by rw [e1]; exact hce) hcv hcl T' rfl X'
    exact ⟨t2, st.trans a1, b1⟩
theorem vx_callv {S SX : Type} {post : S → Prop} {px : SX → Prop} {B : S → State → Prop} {BX : String → SX → State → Prop} {AX : Nat → Prop} (hr : vx_Run p l e R s m args below meth c H locs cells slots mc ms (F0 m pc ls st0) rest (va_Qv post B A1 a) (vx_X px BX AX) free) (hS : va_S A0 H0 H locs) (hA : ∀ q, q < H.size → A1 q → A0 q) (hf : ∀ q, free q → A0 q) (hAX : ∀ q, q < H.size → AX q → A0 q)
    (kx : ∀ (E : String) (ce : Cell) (q9 : Addr) (u : SX) (t : State) (H1 : Heap) (locs1 : List Loc), t.heap = H1 → s.vm.Alike t.vm → px u → BX E u t → H.size ≤ H1.size → (∀ q : Nat, q < H.size → ¬ AX q → H1[q]? = H[q]?) → va_S A0 H0 H1 locs1 → H1[q9]? = some ce → ce.vm = .none → s.vm.findClass E = some ce.cls → vx_W p l e R s m args below meth c H1 locs1 (cells + mc) (slots + ms) Q (F0 m pc ls rest) q9)
    (kk : ∀ (u : S) (t : State) (H1 : Heap) (locs1 : List Loc), t.heap = H1 → s.vm.Alike t.vm → post u → B u t → H.size ≤ H1.size → (∀ q : Nat, q < H.size → ¬ A1 q → H1[q]? = H[q]?) → va_S A0 H0 H1 locs1 → W p l e R s m args below meth c H1 locs1 (cells + mc) (slots + ms) Q (F0 m (pc + 3) ls (rest))) : W p l e R s m args below meth c H locs cells slots Q (F0 m pc ls st0) := by
  intro T hT X
  rcases hr T hT X with ⟨v, st₀, t, T', L, h0, X', hL, e1, e2, ⟨⟨u, hv, hp, hb⟩, hF⟩, st⟩ | ⟨q, st₀, t, T', L, E, ce, h0, X', hL, e1, e2, ⟨u, hp, hb, hF⟩, hce, hcv, hcl, st⟩
  · cases hv
    obtain ⟨k1, k2, k3⟩ := vx_keep h0 e1 hS hA hf hL hF
    obtain ⟨t2, a1, b1⟩ := kk u t T'.heap (locs ++ L) e1.symm (by rw [← e2]; exact X'.warmed.alike) hp hb k1 k2 k3 T' rfl X'
    exact ⟨t2, st t2 a1, b1⟩
  · obtain ⟨k1, k2, k3⟩ := vx_keep h0 e1 hS hAX hf hL hF
    obtain ⟨t2, a1, b1⟩ := kx E ce q u t T'.heap (locs ++ L) e1.symm (by rw [← e2]; exact X'.warmed.alike) hp hb k1 k2 k3 (by rw [e1]; exact hce) hcv hcl T' rfl X'
    exact ⟨t2, st.trans a1, b1⟩
/-- caught by the row x of this method's table; the rows ahead don't take it -/
theorem vx_catch {own name : String} {E : String} {ce : Cell} {q : Addr} (hown : s.vm.findClass own = some m.cls) (pre : List ExceptionTableEntry) (x : ExceptionTableEntry) (suf : List ExceptionTableEntry) (hsplit : c.exceptionTable.toList = pre ++ x :: suf)
    (hpass : ∀ z ∈ pre, covers z pc = false ∨ (z.catchType ≠ 0 ∧ ∃ nm : String, (Cond.classLink own z.catchType nm).before args s = true ∧ va_Nc E nm s)) (hx : covers x pc = true) (h0 : x.catchType ≠ 0)
    (hlink : (Cond.classLink own x.catchType name).before args s = true) (hcast : (Cond.castable E name).before args s = true) (hcell : H[q]? = some ce) (hv : ce.vm = .none) (hcl : s.vm.findClass E = some ce.cls)
    (kk : W p l e R s m args below meth c H locs cells slots Q (F0 m x.handlerPc ls [.ref q])) : vx_W p l e R s m args below meth c H locs cells slots Q (F0 m pc ls rest) q := by
  intro T hT X
  have hpl : e.platform.magicAccessors = ({} : Platform).magicAccessors := by rw [X.admits.platform]
  obtain ⟨c3, c4, hc3, hc4, hasg⟩ := Cond.castable_spec hcast
  cases Option.some.inj (hc3.symm.trans hcl)
  obtain ⟨c5, hc5, hcl5⟩ := Cond.classLink_spec hown hlink e.platform hpl
  cases Option.some.inj (hc4.symm.trans hc5)
  obtain ⟨vm', X', st⟩ := X.thenCaughtThrough q (g := F0 m pc ls rest) rfl (Steps.refl _) (by rw [hT]; exact hcell) (by rw [hv]; rfl) (by obtain ⟨k9, h9, -⟩ := Vm.findClass_spec hcl; exact ⟨k9, h9⟩) pre x suf hsplit
    (fun z hz => by
      rcases hpass z hz with h | ⟨hz0, nm, hl1, hn1⟩
      · exact Or.inl h
      · obtain ⟨c6, hc6, hcl6⟩ := Cond.classLink_spec hown hl1 e.platform hpl
        obtain ⟨a8, b8, h1, h2, h3⟩ := hn1
        cases Option.some.inj (h1.symm.trans hcl)
        cases Option.some.inj (h2.symm.trans hc6)
        exact Or.inr ⟨hz0, _, hcl6, h3⟩) hx (Or.inr ⟨h0, c4, hcl5, hasg⟩)
  obtain ⟨t, a1, b1⟩ := kk (T.setVm vm') hT X'
  exact ⟨t, st.trans a1, b1⟩
end Rows
section Ends
variable {p : Program} {l : Launch} {e : Env} {R : Room} {s : State} {m : MethodId} {args : Array Value} {below : List Frame} {meth : Method} {c : Code} {H : Heap} {locs : List Loc} {cells slots : Nat} {Q : State → Prop}
variable {mc ms : Nat} {free : Addr → Prop} {A0 A1 : Nat → Prop} {H0 : Heap} {a : Array Value} {ls : Array Slot} {st0 rest : List Value}
variable {Qc : Array Value → State → Outcome → State → Prop} {XC : String → State → State → Prop}
/-- what a body that may throw owes at its end -/
def vx_MQ (below : List Frame) (Qc : Array Value → State → Outcome → State → Prop) (XC : String → State → State → Prop) (a : Array Value) (s : State) (mc ms : Nat) (free : Addr → Prop) : State → Prop := fun t =>
  ∃ o, t.status = .running ∧ Ended t below o ∧ vx_Q Qc XC mc ms free a s o t
theorem vx_ret {g : JFrame} {mc ms : Nat} (k : W p l e R s m args below meth c H locs cells slots (MQ below Qc args s mc ms free) g) : W p l e R s m args below meth c H locs cells slots (vx_MQ below Qc XC args s mc ms free) g := by
  intro T hT X
  obtain ⟨t, a1, o, b1, b2, b3, b4⟩ := k T hT X
  exact ⟨t, a1, o, b1, b2, Or.inl ⟨b3, b4⟩⟩
/-- not caught here: it goes on to the caller -/
theorem vx_widen {g : JFrame} {q : Addr} {k n : Nat} (h1 : cells ≤ k) (h2 : slots ≤ n) (kk : vx_W p l e R s m args below meth c H locs k n Q g q) : vx_W p l e R s m args below meth c H locs cells slots Q g q := fun T hT X => kk T hT (stand_widen X h1 h2)
theorem vx_out {pc : Nat} {E : String} {ce : Cell} {q : Addr} {mc ms : Nat} (hout : ∀ x ∈ c.exceptionTable.toList, covers x pc = false) (hlocks : meth.locks = false) (hcell : H[q]? = some ce) (hv : ce.vm = .none) (hcl : s.vm.findClass E = some ce.cls)
    (hx : ∀ t : State, t.heap = H → s.vm.Alike t.vm → XC E s t) (hf : ∀ z ∈ locs, free z.base) (hc : cells ≤ mc) (hs : slots ≤ ms) :
    vx_W p l e R s m args below meth c H locs cells slots (vx_MQ below Qc XC args s mc ms free) (F0 m pc ls rest) q := by
  intro T hT X
  obtain ⟨st1, hrun, hend, hW, hsm⟩ := X.leaveThrown q (g := F0 m pc ls rest) rfl rfl rfl hout hlocks
  have hcell9 : (T.setFrames (.throwing q :: below)).heap[q]? = some ce := by
    show T.heap[q]? = some ce
    rw [hT]; exact hcell
  exact ⟨_, st1, .threw q, hrun, hend, Or.inr ⟨q, rfl, E, ce, locs, hx _ hT hW.alike, hcell9, hv, hcl, hW, hsm.mono hc hs, hf⟩⟩
theorem vx_frame {U : State} {k n : Nat} (h : s.sameButNew ({ U with vm := s.vm } : State) locs k n) : s.heap.size ≤ U.heap.size ∧ ∀ q : Nat, q < s.heap.size → (∀ z ∈ locs, z.base ≠ q) → U.heap[q]? = s.heap[q]? := by
  obtain ⟨-, h2, -, -, -, h6⟩ := h
  refine ⟨h2, fun q hq hz => ?_⟩
  obtain ⟨c9, e1, e2, e3, e4⟩ := h6 q _ (Array.getElem?_eq_getElem hq)
  have hs : c9.slots = (s.heap[q]).slots := Array.ext_getElem? fun i => e4 i fun hm => hz _ hm rfl
  have h9 : c9 = s.heap[q] := by
    rw [hs] at e2
    exact e2
  have e5 : U.heap[q]? = some c9 := e1
  rw [e5, h9, Array.getElem?_eq_getElem hq]
/-- the words of a throw but the four that speak of the heap -/
def vx_no (w : Cond) : Bool := decide (w ≠ .isRef (.static Bundle.tN "UNASSIGNED_STACK" Bundle.steD)) && decide (w ≠ .isRef (.static Bundle.tN "SUPPRESSED_SENTINEL" Bundle.listD)) && decide (w ≠ .laysStatic Bundle.tN "UNASSIGNED_STACK" Bundle.steD) && decide (w ≠ .laysStatic Bundle.tN "SUPPRESSED_SENTINEL" Bundle.listD)
def vx_at0 (own : String) (ic : Nat) (X : String) (names : List String) : List Cond := (Bundle.ownAtoms0 own ic X names).filter vx_no
def vx_atS (own : String) (ic : Nat) (X : String) (names : List String) : List Cond := (Bundle.ownAtoms own ic X names).filter vx_no
/-- a word that the tables alone decide, or a good one -/
def vx_ot (w : Cond) : Bool := w.onTables || goodWord w
theorem vx_ot_at {args a' : Array Value} {s U : State} {w : Cond} (hW : s.WarmedH U.vm) (hvm : s.vm = U.vm) (hg : vx_ot w = true) (h : w.before args s = true) : w.before a' U = true := by
  simp only [vx_ot, Bool.or_eq_true] at hg
  rcases hg with hg | hg
  · exact va_tabs hg hvm h
  · exact word_at hW (good_of_word hg) h
/-- a list's words: the good ones out of the method's own list, the others by premises of their own -/
theorem vx_hat {args : Array Value} {s : State} {L B : List Cond} (h1 : ∀ w ∈ L.filter goodWord, w.before args s = true) (h2 : ∀ w ∈ L.filter (fun w => !goodWord w), w ∈ B) (h3 : ∀ w ∈ B, w.before args s = true) : ∀ w ∈ L, w.before args s = true := by
  intro w hw
  by_cases g : goodWord w = true
  · exact h1 w (List.mem_filter.mpr ⟨hw, g⟩)
  · refine h3 w (h2 w (List.mem_filter.mpr ⟨hw, ?_⟩))
    show (!goodWord w) = true
    cases hgw : goodWord w
    · rfl
    · exact absurd hgw g
theorem vx_c {args : Array Value} {s : State} {w : Cond} {B : List Cond} (h : w.before args s = true) (t : ∀ w ∈ B, w.before args s = true) : ∀ w' ∈ w :: B, w'.before args s = true := fun w' h' => (List.mem_cons.mp h').elim (fun e => by rw [e]; exact h) (t w')
theorem vx_n {args : Array Value} {s : State} : ∀ w ∈ ([] : List Cond), w.before args s = true := fun _ h => nomatch h
theorem vx_own {args : Array Value} {s : State} {L : List Cond} (h1 : ∀ w ∈ L.filter vx_no, w.before args s = true)
    (hU : (Cond.isRef (.static Bundle.tN "UNASSIGNED_STACK" Bundle.steD)).before args s = true) (hN : (Cond.isRef (.static Bundle.tN "SUPPRESSED_SENTINEL" Bundle.listD)).before args s = true)
    (lU : (Cond.laysStatic Bundle.tN "UNASSIGNED_STACK" Bundle.steD).before args s = true) (lN : (Cond.laysStatic Bundle.tN "SUPPRESSED_SENTINEL" Bundle.listD).before args s = true) : ∀ w ∈ L, w.before args s = true := by
  intro w hw
  by_cases e1 : w = .isRef (.static Bundle.tN "UNASSIGNED_STACK" Bundle.steD)
  · rw [e1]; exact hU
  · by_cases e2 : w = .isRef (.static Bundle.tN "SUPPRESSED_SENTINEL" Bundle.listD)
    · rw [e2]; exact hN
    · by_cases e3 : w = .laysStatic Bundle.tN "UNASSIGNED_STACK" Bundle.steD
      · rw [e3]; exact lU
      · by_cases e4 : w = .laysStatic Bundle.tN "SUPPRESSED_SENTINEL" Bundle.listD
        · rw [e4]; exact lN
        · exact h1 w (List.mem_filter.mpr ⟨hw, by unfold vx_no; rw [decide_eq_true e1, decide_eq_true e2, decide_eq_true e3, decide_eq_true e4]; rfl⟩)
/-- where a static field lies, its class's statics cell in H -/
def vx_L (C n d : String) (A : Nat → Prop) (U : State) (H : Heap) : Prop := ∃ (c : ClassId) (k : Class) (i : Nat) (f : Field) (a : Nat) (cell : Cell), U.vm.findClass C = some c ∧ U.fieldFound? C n d = some (c, k, i, f) ∧ f.isStatic = true ∧ k.statics = some a ∧ H[a]? = some cell ∧ cell.vm.isStatics = true ∧ cell.cls = c ∧ f.slot < cell.slots.size ∧ k.staticTypes[f.slot]? = some f.type ∧ ¬ A a
theorem vx_L.moved {C n d : String} {A : Nat → Prop} {u U : State} {H : Heap} (hvm : u.vm.Alike U.vm) (h : vx_L C n d A u H) : vx_L C n d A U H := by
  obtain ⟨c, k, i, f, a, cell, h1, h2, h3, h4, h5, h6, h7, h8, h9, h10⟩ := h
  obtain ⟨k', hi', he⟩ := State.fieldFound?_setVm hvm h2
  exact ⟨c, k', i, f, a, cell, by rw [hvm.findClass]; exact h1, hi', h3, by rw [he]; exact h4, h5, h6, h7, h8, by rw [he]; exact h9, h10⟩
theorem vx_L.kept {C n d : String} {A : Nat → Prop} {U : State} {H H1 : Heap} (h : vx_L C n d A U H) (hq : ∀ a : Nat, a < H.size → ¬ A a → H1[a]? = H[a]?) : vx_L C n d A U H1 := by
  obtain ⟨c, k, i, f, a, cell, h1, h2, h3, h4, h5, h6, h7, h8, h9, h10⟩ := h
  exact ⟨c, k, i, f, a, cell, h1, h2, h3, h4, by rw [hq a (Array.getElem?_eq_some_iff.mp h5).1 h10]; exact h5, h6, h7, h8, h9, h10⟩
theorem vx_L.narrow {C n d : String} {A B : Nat → Prop} {U : State} {H : Heap} (h : vx_L C n d A U H) (hAB : ∀ q, B q → A q) : vx_L C n d B U H := by
  obtain ⟨c, k, i, f, a, cell, h1, h2, h3, h4, h5, h6, h7, h8, h9, h10⟩ := h
  exact ⟨c, k, i, f, a, cell, h1, h2, h3, h4, h5, h6, h7, h8, h9, fun z => h10 (hAB _ z)⟩
theorem vx_L.word {C n d : String} {A : Nat → Prop} {s : State} {args : Array Value} (h : vx_L C n d A s s.heap) : (Cond.laysStatic C n d).before args s = true := by
  obtain ⟨c, k, i, f, a, cell, h1, h2, h3, h4, h5, h6, h7, h8, h9, -⟩ := h
  show (Cond.laysStatic C n d).holds args s none s [] = true
  exact Cond.laysStatic_of h1 h2 h3 h4 h5 h6 h7 h8 h9
/-- .. and what it holds: null or some reference -/
def vx_Zq (C n d : String) (A : Nat → Prop) (U : State) (H : Heap) : Prop := va_Zq C n d A U H ∧ vx_L C n d A U H
theorem vx_Zq.moved {C n d : String} {A : Nat → Prop} {u U : State} {H : Heap} (hvm : u.vm.Alike U.vm) (h : vx_Zq C n d A u H) : vx_Zq C n d A U H := ⟨va_Zq.moved hvm h.1, vx_L.moved hvm h.2⟩
theorem vx_Zq.kept {C n d : String} {A : Nat → Prop} {U : State} {H H1 : Heap} (h : vx_Zq C n d A U H) (hq : ∀ a : Nat, a < H.size → ¬ A a → H1[a]? = H[a]?) : vx_Zq C n d A U H1 := ⟨va_Zq.kept h.1 hq, vx_L.kept h.2 hq⟩
theorem vx_Zq.narrow {C n d : String} {A B : Nat → Prop} {U : State} {H : Heap} (h : vx_Zq C n d A U H) (hAB : ∀ q, B q → A q) : vx_Zq C n d B U H := ⟨va_Zq.narrow h.1 hAB, vx_L.narrow h.2 hAB⟩
theorem vx_Zqof {args : Array Value} {s : State} {C n d : String} {A : Nat → Prop} (hl : (Cond.laysStatic C n d).before args s = true) (hini : (Cond.initialized C).before args s = true) (h : (Cond.isRef (.static C n d)).before args s = true) (hA : ∀ a : Nat, a < s.heap.size → ¬ A a) : vx_Zq C n d A s s.heap := by
  refine ⟨va_Zqof hl hini h hA, ?_⟩
  obtain ⟨c, k, i, f, a, cell, h1, h2, h3, h4, h5, h6, h7, h8, h9⟩ := Cond.laysStatic_spec hl
  exact ⟨c, k, i, f, a, cell, h1, h2, h3, h4, h5, h6, h7, h8, h9, hA a (Array.getElem?_eq_some_iff.mp h5).1⟩
theorem vx_isRef {C n d : String} {v : Value} {A : Nat → Prop} {s : State} {args : Array Value} (h : va_Z C n d v A s s.heap) (hv : v.isRef = true) : (Cond.isRef (.static C n d)).before args s = true := by
  obtain ⟨cf, kf, fi, f, a, cell, h1, h2, h3, h4, h5, h6, h7, -⟩ := h
  have he : (Term.static C n d).eval args s none [] s = some v := by
    simp [Term.eval, State.fieldNamed?, h1, h2, h4, h5, h6, h7]
  simp only [Cond.before, Cond.holds, Cond.value, he]
  cases v <;> simp_all [Value.isRef]
theorem vx_isRefq {C n d : String} {A : Nat → Prop} {s : State} {args : Array Value} (h : va_Zq C n d A s s.heap) : (Cond.isRef (.static C n d)).before args s = true := by
  rcases h with h | ⟨t, h⟩
  · exact vx_isRef h rfl
  · exact vx_isRef h rfl
/-- the same frame, seen from here: as if the method were called anew in this heap -/
theorem vx_rebase {T : State} (X : Stand p l e R s m args below meth c T locs cells slots) {R' : Room} (hf : R'.frames ≤ R.frames) (hl : R'.locals ≤ R.locals) (hc : cells + R'.cells ≤ R.cells) (hs : slots + R'.slots ≤ R.slots) :
    Stand p l e R' ((T.setVm s.vm).setFrames (.invoking m args :: below)) m args below meth c T [] 0 0 := by
  have htop : (T.setVm s.vm).topJava?.isSome := X.here.top
  have hF : ((T.setVm s.vm).setFrames (.invoking m args :: below)).frames = .invoking m args :: below := State.frames_setFrames _ (State.cur_lt_of_top htop)
  obtain ⟨g₀, hg0⟩ := Option.isSome_iff_exists.mp htop
  obtain ⟨r, hr⟩ := State.topJava?_eq_some.mp hg0
  have hl9 : e.platform.stackLimits (T.setVm s.vm).me = e.platform.stackLimits s.me := X.limits
  have hb9 : (T.setVm s.vm).me.stackBytes = s.me.stackBytes := X.bytes
  refine ⟨X.admits, X.cas, X.clock, hF, ?_, X.hears, X.method, X.code, X.here, X.tail, X.warmed, ?_, ?_, ?_⟩
  · have h := X.room
    have hU : ((T.setVm s.vm).setFrames (.invoking m args :: below)).localsInUse = s.localsInUse := by
      rw [State.localsInUse_invoking hF (meth := meth) (c := c) X.method X.code, State.localsInUse_invoking X.frames X.method X.code]
    simp only [State.hasRoom, Bool.and_eq_true, decide_eq_true_eq] at h ⊢
    obtain ⟨⟨⟨⟨h1, h2, h3, h4, h5, h6⟩, h7⟩, h8⟩, h9⟩ := h
    rw [X.frames, List.length_cons] at h2 h3
    have q1 := X.heapSize
    have q2 := X.used
    simp only [hF, hU, List.length_cons, State.stackLimits_setFrames, State.stackBytes_setFrames, hl9, hb9]
    refine ⟨⟨⟨⟨by omega, by omega, by omega, by omega, by omega, h6⟩, ?_⟩, ?_⟩, X.book⟩
    · show T.heap.size + R'.cells ≤ e.platform.maxCells
      omega
    · show T.slotsUsed + R'.slots ≤ e.platform.maxSlots
      omega
  · rw [State.stackLimits_setFrames]; rfl
  · rw [State.stackBytes_setFrames]; rfl
  · refine ⟨?_, Nat.le_refl _, Nat.le_refl _, ?_, ?_, fun a c9 h9 => ⟨c9, h9, rfl, rfl, fun _ _ => rfl⟩⟩
    · obtain ⟨t, ht, -⟩ := State.frames_cons hr
      show T.setVm s.vm = { ((T.setVm s.vm).setFrames (.invoking m args :: below)).setFrames (T.setVm s.vm).frames with heap := T.heap, slotsUsed := T.slotsUsed }
      rw [State.setFrames_setFrames, State.setFrames_self ht]
      rfl
    · show T.slotsUsed = T.slotsUsed + ((T.heap.toList.drop T.heap.size).map (·.slots.size)).sum
      rw [List.drop_eq_nil_of_le (Nat.le_of_eq Array.length_toList)]
      rfl
    · show ((T.heap.toList.drop T.heap.size).map (·.slots.size)).sum ≤ 0
      rw [List.drop_eq_nil_of_le (Nat.le_of_eq Array.length_toList)]
      exact Nat.le_refl _
/-- 'throw new E()': new; dup; invokespecial; athrow -/
theorem vx_throw0 {cc : ByteArray} {pc : Nat} (hexec : p.tables.exec = Jvm.exec) (hb : c.code = cc) (hl : l.stackTraces = false) {own cls : String} {names : List String} {ik ic mc ms : Nat} {A : Nat → Prop}
    (hown : s.vm.findClass own = some m.cls) (hcls : Bundle.fit cls = true) (hnames : ∀ n ∈ names, Bundle.fit n = true)
    (hk : (Cond.classLink own ik cls).before args s = true) (hini : (Cond.initialized cls).before args s = true) (hat : ∀ w ∈ vx_at0 own ic cls names, w.before args s = true)
    (hgood : ∀ w ∈ Cond.classLink own ik cls :: Cond.initialized cls :: vx_at0 own ic cls names, vx_ot w = true)
    (hU : vx_Zq Bundle.tN "UNASSIGNED_STACK" Bundle.steD A s s.heap) (hN : vx_Zq Bundle.tN "SUPPRESSED_SENTINEL" Bundle.listD A s s.heap) (hS : va_S A s.heap H locs) (hsize : ls.size = c.maxLocals)
    (d0 : decode cc pc = .ok (.new ik, 3)) (d3 : decode cc (pc + 3) = .ok (.dup, 1)) (d4 : decode cc (pc + 4) = .ok (.invokespecial ic, 3)) (d7 : decode cc (pc + 7) = .ok (.athrow, 1))
    (hout : ∀ x ∈ c.exceptionTable.toList, covers x (pc + 7) = false)
    (hRframes : names.length + 3 < R.frames) (hRlocals : (rest.map fun v => v.category).sum + (13 * (names.length + 1) + 42) ≤ R.locals) (hRcells : cells + 1 ≤ R.cells) (hRslots : slots + 6 ≤ R.slots) (hlocks : meth.locks = false)
    (hx : ∀ t : State, s.vm.Alike t.vm → H.size ≤ t.heap.size → (∀ q : Nat, q < H.size → t.heap[q]? = H[q]?) → XC cls s t)
    (hf : ∀ z ∈ locs, free z.base) (hc : cells + 1 ≤ mc) (hs : slots + 6 ≤ ms) :
    W p l e R s m args below meth c H locs cells slots (vx_MQ below Qc XC args s mc ms free) (F0 m pc ls rest) := by
  intro T hT X
  have htr : e.platform.stackTraces = false := (show e.platform.stackTraces = l.stackTraces by rw [X.admits.platform]).trans hl
  have Y := vx_rebase X (R' := { frames := R.frames, locals := R.locals, cells := 1, slots := 6 }) (Nat.le_refl _) (Nat.le_refl _) hRcells hRslots
  obtain ⟨s', hA⟩ : ∃ z, z = (T.setVm s.vm).setFrames (.invoking m args :: below) := ⟨_, rfl⟩
  rw [← hA] at Y
  have hvm : s'.vm = s.vm := by rw [hA]; rfl
  have hhp : s'.heap = H := by rw [hA]; exact hT
  have hW0 : s.WarmedH s'.vm := by rw [hvm]; exact State.WarmedH.refl s
  have hat' : ∀ w ∈ vx_at0 own ic cls names, w.before args s' = true := fun w hw => vx_ot_at hW0 hvm.symm (hgood w (List.mem_cons_of_mem _ (List.mem_cons_of_mem _ hw))) (hat w hw)
  have hk' : (Cond.classLink own ik cls).before args s' = true := vx_ot_at hW0 hvm.symm (hgood _ List.mem_cons_self) hk
  have hini' : (Cond.initialized cls).before args s' = true := vx_ot_at hW0 hvm.symm (hgood _ (List.mem_cons_of_mem _ List.mem_cons_self)) hini
  have hU' : vx_Zq Bundle.tN "UNASSIGNED_STACK" Bundle.steD A s' s'.heap := by rw [hhp]; exact vx_Zq.moved hW0.alike (hU.kept hS.2.1)
  have hN' : vx_Zq Bundle.tN "SUPPRESSED_SENTINEL" Bundle.listD A s' s'.heap := by rw [hhp]; exact vx_Zq.moved hW0.alike (hN.kept hS.2.1)
  have h : ∀ w ∈ Bundle.ownAtoms0 own ic cls names, w.before args s' = true := vx_own hat' (vx_isRefq hU'.1) (vx_isRefq hN'.1) hU'.2.word hN'.2.word
  have hown' : s'.vm.findClass own = some m.cls := by rw [hvm]; exact hown
  have hins : (Cond.instantiable cls 6).before args s' = true := h _ (by simp [Bundle.ownAtoms0])
  obtain ⟨vm₁, cX, kX, hfX, hkX, -, -, X₁, st1⟩ := Y.newCold hexec (own := own) (C := cls) (index := ik) (n := 6) hown' hk' hins hini'
    (g := F0 m pc ls rest) rfl (by rw [hb]; exact d0) (Nat.le_refl _) (Nat.le_refl _)
  generalize hT1 : (T.setVm vm₁).pushCell { cls := cX, slots := kX.instanceTypes.map defaultValue, vm := .none } = T1 at X₁ st1
  have hcat : (Value.ref T.heap.size).category = 1 := rfl
  have hcellA : T1.heap[T.heap.size]? = some (freshCell cX kX) := by rw [← hT1]; exact State.heap_pushCell_size _ _
  have d3' : decode c.code (pc + 3) = .ok (.dup, 1) := by rw [hb]; exact d3
  obtain ⟨U, hsteps, hrun, hend, hW, hsame, ce, hce, hO⟩ := X₁.ctorThrow0 hexec htr (own := own) (cls := cls) (names := names) (ic := ic) hown' hcls hnames h (fun x hx => nomatch hx) hfX hkX hcellA (by rw [hhp, hT]; exact Nat.le_refl _)
    (g := { method := m, pc := pc + 4, locals := ls, stack := .ref T.heap.size :: .ref T.heap.size :: rest, locked := none }) rfl hsize rfl rfl (rest := rest) rfl
    (by rw [hb]; exact d4) (by rw [hb]; exact d7) hout hRframes (by simp only [List.map_cons, List.sum_cons, hcat]; omega) hlocks
  obtain ⟨f1, f2⟩ := vx_frame hsame
  rw [hhp] at f1 f2
  have hWs : s.WarmedH U.vm := State.WarmedH.trans hW0 hW
  have hcl : s.vm.findClass cls = some ce.cls := by
    have h9 := hO.cls
    rw [hvm] at h9
    exact h9
  have hall : s.sameButNew ({ U with vm := s.vm } : State) locs mc ms := by
    subst hA
    obtain ⟨e1, e2⟩ := hsame
    rw [State.setFrames_setFrames] at e1
    have h2 : (T.setVm s.vm).sameButNew ({ U with vm := s.vm } : State) [] (0 + 1) (0 + 6) := ⟨e1, e2⟩
    have h3 := X.same.trans h2
    rw [List.append_nil] at h3
    exact h3.mono hc hs
  refine ⟨U, ?_, .threw T.heap.size, hrun, hend, Or.inr ⟨T.heap.size, rfl, cls, ce, locs, hx U hWs.alike f1 (fun q hq => f2 q hq (fun z hz => nomatch hz)), hce, hO.vm, hcl, hWs, hall, hf⟩⟩
  refine st1 _ ?_
  show Steps p.tables e below (T1.setTop { method := m, pc := pc + 3, locals := ls, stack := .ref T.heap.size :: rest, locked := none }) _
  jvm_step X₁.here [X₁.here.top, hexec, d3', Value.category]
  exact hsteps
/-- 'throw new E("text")': new; dup; ldc; invokespecial; athrow -/
theorem vx_throwS {cc : ByteArray} {pc : Nat} (hexec : p.tables.exec = Jvm.exec) (hb : c.code = cc) (hl : l.stackTraces = false) {own cls text : String} {names : List String} {ik is ic mc ms sa : Nat} {A : Nat → Prop}
    (hown : s.vm.findClass own = some m.cls) (hcls : Bundle.fit cls = true) (hnames : ∀ n ∈ names, Bundle.fit n = true)
    (hk : (Cond.classLink own ik cls).before args s = true) (hini : (Cond.initialized cls).before args s = true) (hstr : vk_R own is text sa s) (hat : ∀ w ∈ vx_atS own ic cls names, w.before args s = true)
    (hgood : ∀ w ∈ Cond.classLink own ik cls :: Cond.initialized cls :: vx_atS own ic cls names, vx_ot w = true)
    (hU : vx_Zq Bundle.tN "UNASSIGNED_STACK" Bundle.steD A s s.heap) (hN : vx_Zq Bundle.tN "SUPPRESSED_SENTINEL" Bundle.listD A s s.heap) (hS : va_S A s.heap H locs) (hsize : ls.size = c.maxLocals)
    (d0 : decode cc pc = .ok (.new ik, 3)) (d3 : decode cc (pc + 3) = .ok (.dup, 1)) (d4 : decode cc (pc + 4) = .ok (.ldc is, 2)) (d6 : decode cc (pc + 6) = .ok (.invokespecial ic, 3)) (d9 : decode cc (pc + 9) = .ok (.athrow, 1))
    (hout : ∀ x ∈ c.exceptionTable.toList, covers x (pc + 9) = false)
    (hRframes : names.length + 3 < R.frames) (hRlocals : (rest.map fun v => v.category).sum + (13 * (names.length + 1) + 43) ≤ R.locals) (hRcells : cells + 1 ≤ R.cells) (hRslots : slots + 6 ≤ R.slots) (hlocks : meth.locks = false)
    (hx : ∀ t : State, s.vm.Alike t.vm → H.size ≤ t.heap.size → (∀ q : Nat, q < H.size → t.heap[q]? = H[q]?) → XC cls s t)
    (hf : ∀ z ∈ locs, free z.base) (hc : cells + 1 ≤ mc) (hs : slots + 6 ≤ ms) :
    W p l e R s m args below meth c H locs cells slots (vx_MQ below Qc XC args s mc ms free) (F0 m pc ls rest) := by
  intro T hT X
  have htr : e.platform.stackTraces = false := (show e.platform.stackTraces = l.stackTraces by rw [X.admits.platform]).trans hl
  have Y := vx_rebase X (R' := { frames := R.frames, locals := R.locals, cells := 1, slots := 6 }) (Nat.le_refl _) (Nat.le_refl _) hRcells hRslots
  obtain ⟨s', hA⟩ : ∃ z, z = (T.setVm s.vm).setFrames (.invoking m args :: below) := ⟨_, rfl⟩
  rw [← hA] at Y
  have hvm : s'.vm = s.vm := by rw [hA]; rfl
  have hhp : s'.heap = H := by rw [hA]; exact hT
  have hW0 : s.WarmedH s'.vm := by rw [hvm]; exact State.WarmedH.refl s
  have hat' : ∀ w ∈ vx_atS own ic cls names, w.before args s' = true := fun w hw => vx_ot_at hW0 hvm.symm (hgood w (List.mem_cons_of_mem _ (List.mem_cons_of_mem _ hw))) (hat w hw)
  have hk' : (Cond.classLink own ik cls).before args s' = true := vx_ot_at hW0 hvm.symm (hgood _ List.mem_cons_self) hk
  have hini' : (Cond.initialized cls).before args s' = true := vx_ot_at hW0 hvm.symm (hgood _ (List.mem_cons_of_mem _ List.mem_cons_self)) hini
  have hU' : vx_Zq Bundle.tN "UNASSIGNED_STACK" Bundle.steD A s' s'.heap := by rw [hhp]; exact vx_Zq.moved hW0.alike (hU.kept hS.2.1)
  have hN' : vx_Zq Bundle.tN "SUPPRESSED_SENTINEL" Bundle.listD A s' s'.heap := by rw [hhp]; exact vx_Zq.moved hW0.alike (hN.kept hS.2.1)
  have h : ∀ w ∈ Bundle.ownAtoms own ic cls names, w.before args s' = true := vx_own hat' (vx_isRefq hU'.1) (vx_isRefq hN'.1) hU'.2.word hN'.2.word
  have hown' : s'.vm.findClass own = some m.cls := by rw [hvm]; exact hown
  have hins : (Cond.instantiable cls 6).before args s' = true := h _ (by simp [Bundle.ownAtoms])
  obtain ⟨vm₁, cX, kX, hfX, hkX, -, -, X₁, st1⟩ := Y.newCold hexec (own := own) (C := cls) (index := ik) (n := 6) hown' hk' hins hini'
    (g := F0 m pc ls rest) rfl (by rw [hb]; exact d0) (Nat.le_refl _) (Nat.le_refl _)
  generalize hT1 : (T.setVm vm₁).pushCell { cls := cX, slots := kX.instanceTypes.map defaultValue, vm := .none } = T1 at X₁ st1
  have hcat : (Value.ref T.heap.size).category = 1 := rfl
  have hcellA : T1.heap[T.heap.size]? = some (freshCell cX kX) := by rw [← hT1]; exact State.heap_pushCell_size _ _
  have d3' : decode c.code (pc + 3) = .ok (.dup, 1) := by rw [hb]; exact d3
  have d4' : decode c.code (pc + 4) = .ok (.ldc is, 2) := by rw [hb]; exact d4
  have hstr' : vk_R own is text sa s' := vk_R.warm hW0 hstr
  obtain ⟨U, hsteps, hrun, hend, hW, hsame, ce, hce, hO⟩ := X₁.ctorThrowS hexec htr (own := own) (cls := cls) (names := names) (ic := ic) hown' hcls hnames h (fun x hx => nomatch hx) hfX hkX hcellA (by rw [hhp, hT]; exact Nat.le_refl _) (msg := .ref sa) rfl
    (g := { method := m, pc := pc + 6, locals := ls, stack := .ref sa :: .ref T.heap.size :: .ref T.heap.size :: rest, locked := none }) rfl hsize rfl rfl (rest := rest) rfl
    (by rw [hb]; exact d6) (by rw [hb]; exact d9) hout hRframes (by simp only [List.map_cons, List.sum_cons, hcat]; omega) hlocks
  obtain ⟨f1, f2⟩ := vx_frame hsame
  rw [hhp] at f1 f2
  have hWs : s.WarmedH U.vm := State.WarmedH.trans hW0 hW
  have hcl : s.vm.findClass cls = some ce.cls := by
    have h9 := hO.cls
    rw [hvm] at h9
    exact h9
  have hall : s.sameButNew ({ U with vm := s.vm } : State) locs mc ms := by
    subst hA
    obtain ⟨e1, e2⟩ := hsame
    rw [State.setFrames_setFrames] at e1
    have h2 : (T.setVm s.vm).sameButNew ({ U with vm := s.vm } : State) [] (0 + 1) (0 + 6) := ⟨e1, e2⟩
    have h3 := X.same.trans h2
    rw [List.append_nil] at h3
    exact h3.mono hc hs
  refine ⟨U, ?_, .threw T.heap.size, hrun, hend, Or.inr ⟨T.heap.size, rfl, cls, ce, locs, hx U hWs.alike f1 (fun q hq => f2 q hq (fun z hz => nomatch hz)), hce, hO.vm, hcl, hWs, hall, hf⟩⟩
  refine st1 _ ?_
  show Steps p.tables e below (T1.setTop { method := m, pc := pc + 3, locals := ls, stack := .ref T.heap.size :: rest, locked := none }) _
  jvm_step X₁.here [X₁.here.top, hexec, d3', Value.category]
  exact X₁.ldcString hexec (own := own) (text := text) (index := is) (a := sa) hown' hstr'.1 hstr'.2
    (g := { method := m, pc := pc + 4, locals := ls, stack := .ref T.heap.size :: .ref T.heap.size :: rest, locked := none }) rfl d4' _ hsteps
/-- 'throw new E("text")', the text by a wide index -/
theorem vx_throwSW {cc : ByteArray} {pc : Nat} (hexec : p.tables.exec = Jvm.exec) (hb : c.code = cc) (hl : l.stackTraces = false) {own cls text : String} {names : List String} {ik is ic mc ms sa : Nat} {A : Nat → Prop}
    (hown : s.vm.findClass own = some m.cls) (hcls : Bundle.fit cls = true) (hnames : ∀ n ∈ names, Bundle.fit n = true)
    (hk : (Cond.classLink own ik cls).before args s = true) (hini : (Cond.initialized cls).before args s = true) (hstr : vk_R own is text sa s) (hat : ∀ w ∈ vx_atS own ic cls names, w.before args s = true)
    (hgood : ∀ w ∈ Cond.classLink own ik cls :: Cond.initialized cls :: vx_atS own ic cls names, vx_ot w = true)
    (hU : vx_Zq Bundle.tN "UNASSIGNED_STACK" Bundle.steD A s s.heap) (hN : vx_Zq Bundle.tN "SUPPRESSED_SENTINEL" Bundle.listD A s s.heap) (hS : va_S A s.heap H locs) (hsize : ls.size = c.maxLocals)
    (d0 : decode cc pc = .ok (.new ik, 3)) (d3 : decode cc (pc + 3) = .ok (.dup, 1)) (d4 : decode cc (pc + 4) = .ok (.ldc_w is, 3)) (d7 : decode cc (pc + 7) = .ok (.invokespecial ic, 3)) (d10 : decode cc (pc + 10) = .ok (.athrow, 1))
    (hout : ∀ x ∈ c.exceptionTable.toList, covers x (pc + 10) = false)
    (hRframes : names.length + 3 < R.frames) (hRlocals : (rest.map fun v => v.category).sum + (13 * (names.length + 1) + 43) ≤ R.locals) (hRcells : cells + 1 ≤ R.cells) (hRslots : slots + 6 ≤ R.slots) (hlocks : meth.locks = false)
    (hx : ∀ t : State, s.vm.Alike t.vm → H.size ≤ t.heap.size → (∀ q : Nat, q < H.size → t.heap[q]? = H[q]?) → XC cls s t)
    (hf : ∀ z ∈ locs, free z.base) (hc : cells + 1 ≤ mc) (hs : slots + 6 ≤ ms) :
    W p l e R s m args below meth c H locs cells slots (vx_MQ below Qc XC args s mc ms free) (F0 m pc ls rest) := by
  intro T hT X
  have htr : e.platform.stackTraces = false := (show e.platform.stackTraces = l.stackTraces by rw [X.admits.platform]).trans hl
  have Y := vx_rebase X (R' := { frames := R.frames, locals := R.locals, cells := 1, slots := 6 }) (Nat.le_refl _) (Nat.le_refl _) hRcells hRslots
  obtain ⟨s', hA⟩ : ∃ z, z = (T.setVm s.vm).setFrames (.invoking m args :: below) := ⟨_, rfl⟩
  rw [← hA] at Y
  have hvm : s'.vm = s.vm := by rw [hA]; rfl
  have hhp : s'.heap = H := by rw [hA]; exact hT
  have hW0 : s.WarmedH s'.vm := by rw [hvm]; exact State.WarmedH.refl s
  have hat' : ∀ w ∈ vx_atS own ic cls names, w.before args s' = true := fun w hw => vx_ot_at hW0 hvm.symm (hgood w (List.mem_cons_of_mem _ (List.mem_cons_of_mem _ hw))) (hat w hw)
  have hk' : (Cond.classLink own ik cls).before args s' = true := vx_ot_at hW0 hvm.symm (hgood _ List.mem_cons_self) hk
  have hini' : (Cond.initialized cls).before args s' = true := vx_ot_at hW0 hvm.symm (hgood _ (List.mem_cons_of_mem _ List.mem_cons_self)) hini
  have hU' : vx_Zq Bundle.tN "UNASSIGNED_STACK" Bundle.steD A s' s'.heap := by rw [hhp]; exact vx_Zq.moved hW0.alike (hU.kept hS.2.1)
  have hN' : vx_Zq Bundle.tN "SUPPRESSED_SENTINEL" Bundle.listD A s' s'.heap := by rw [hhp]; exact vx_Zq.moved hW0.alike (hN.kept hS.2.1)
  have h : ∀ w ∈ Bundle.ownAtoms own ic cls names, w.before args s' = true := vx_own hat' (vx_isRefq hU'.1) (vx_isRefq hN'.1) hU'.2.word hN'.2.word
  have hown' : s'.vm.findClass own = some m.cls := by rw [hvm]; exact hown
  have hins : (Cond.instantiable cls 6).before args s' = true := h _ (by simp [Bundle.ownAtoms])
  obtain ⟨vm₁, cX, kX, hfX, hkX, -, -, X₁, st1⟩ := Y.newCold hexec (own := own) (C := cls) (index := ik) (n := 6) hown' hk' hins hini'
    (g := F0 m pc ls rest) rfl (by rw [hb]; exact d0) (Nat.le_refl _) (Nat.le_refl _)
  generalize hT1 : (T.setVm vm₁).pushCell { cls := cX, slots := kX.instanceTypes.map defaultValue, vm := .none } = T1 at X₁ st1
  have hcat : (Value.ref T.heap.size).category = 1 := rfl
  have hcellA : T1.heap[T.heap.size]? = some (freshCell cX kX) := by rw [← hT1]; exact State.heap_pushCell_size _ _
  have d3' : decode c.code (pc + 3) = .ok (.dup, 1) := by rw [hb]; exact d3
  have d4' : decode c.code (pc + 4) = .ok (.ldc_w is, 3) := by rw [hb]; exact d4
  have hstr' : vk_R own is text sa s' := vk_R.warm hW0 hstr
  obtain ⟨U, hsteps, hrun, hend, hW, hsame, ce, hce, hO⟩ := X₁.ctorThrowS hexec htr (own := own) (cls := cls) (names := names) (ic := ic) hown' hcls hnames h (fun x hx => nomatch hx) hfX hkX hcellA (by rw [hhp, hT]; exact Nat.le_refl _) (msg := .ref sa) rfl
    (g := { method := m, pc := pc + 7, locals := ls, stack := .ref sa :: .ref T.heap.size :: .ref T.heap.size :: rest, locked := none }) rfl hsize rfl rfl (rest := rest) rfl
    (by rw [hb]; exact d7) (by rw [hb]; exact d10) hout hRframes (by simp only [List.map_cons, List.sum_cons, hcat]; omega) hlocks
  obtain ⟨f1, f2⟩ := vx_frame hsame
  rw [hhp] at f1 f2
  have hWs : s.WarmedH U.vm := State.WarmedH.trans hW0 hW
  have hcl : s.vm.findClass cls = some ce.cls := by
    have h9 := hO.cls
    rw [hvm] at h9
    exact h9
  have hall : s.sameButNew ({ U with vm := s.vm } : State) locs mc ms := by
    subst hA
    obtain ⟨e1, e2⟩ := hsame
    rw [State.setFrames_setFrames] at e1
    have h2 : (T.setVm s.vm).sameButNew ({ U with vm := s.vm } : State) [] (0 + 1) (0 + 6) := ⟨e1, e2⟩
    have h3 := X.same.trans h2
    rw [List.append_nil] at h3
    exact h3.mono hc hs
  refine ⟨U, ?_, .threw T.heap.size, hrun, hend, Or.inr ⟨T.heap.size, rfl, cls, ce, locs, hx U hWs.alike f1 (fun q hq => f2 q hq (fun z hz => nomatch hz)), hce, hO.vm, hcl, hWs, hall, hf⟩⟩
  refine st1 _ ?_
  show Steps p.tables e below (T1.setTop { method := m, pc := pc + 3, locals := ls, stack := .ref T.heap.size :: rest, locked := none }) _
  jvm_step X₁.here [X₁.here.top, hexec, d3', Value.category]
  exact X₁.ldcStringW hexec (own := own) (text := text) (index := is) (a := sa) hown' hstr'.1 hstr'.2
    (g := { method := m, pc := pc + 4, locals := ls, stack := .ref T.heap.size :: .ref T.heap.size :: rest, locked := none }) rfl d4' _ hsteps
end Ends
section Bodies
variable {l : Launch}
theorem vx_ofW {y : MethodName} {ws ws' : List Cond} {rm : Room} {Pc : Array Value → State → Prop} {Qc : Array Value → State → Outcome → State → Prop} {XC : String → State → State → Prop} {mc ms : Nat} {free : Addr → Prop} {cc : ByteArray} {maxL : Nat} {ret : Option FieldType}
    (hy : plainName y.cls = true) (hw : ws = Cond.code y cc maxL ret :: ws')
    (body : ∀ p e s m args below meth c s₁, BodyLoose p l y (headSpec ws rm) cc maxL ret e s m args below meth c s₁ → c.maxLocals = maxL → (∀ x ∈ c.exceptionTable.toList, False) → Pc args s →
      W p l e (headSpec ws rm).room s m args below meth c s.heap [] 0 0 (vx_MQ below Qc XC args s mc ms free) (entryFrame m args maxL)) : vx_Met l y ws rm Pc Qc XC mc ms free := by
  refine MetFree.of_bodyS (code := cc) (maxLocals := maxL) (ret := ret) hy ?_ ?_
  · intro args s m h hn
    obtain ⟨meth, c, h1, h2, h3, h4, h5, h6, -, -⟩ := Cond.code_spec hn (atoms_spec (ws := ws) h _ (by rw [hw]; exact List.mem_cons_self))
    exact ⟨meth, c, h1, h2, h3, h4, h5, h6⟩
  · intro p e s m args below meth c s₁ B hml hP _
    have hh0 : s₁.heap = s.heap := by rw [B.state]; rfl
    have ht : ∀ x ∈ c.exceptionTable.toList, False := by
      obtain ⟨meth9, c9, h1, h2, -, -, -, -, h7, -⟩ := Cond.code_spec B.named (atoms_spec (ws := ws) B.pre _ (by rw [hw]; exact List.mem_cons_self))
      cases Option.some.inj (h1.symm.trans B.method)
      cases Option.some.inj (h2.symm.trans (Stand.of_body B).code)
      intro x hx
      rw [Array.isEmpty_iff.mp h7] at hx
      cases hx
    obtain ⟨t, a1, o, b1, b2, b3⟩ := body p e s m args below meth c s₁ B hml ht hP s₁ hh0 (Stand.of_body B)
    exact ⟨t, o, a1, b1, b2, b3⟩
/-- the table of a body with handlers -/
theorem vx_table {p : Program} {x y : MethodName} {S : Spec} {cc bytes : ByteArray} {maxL maxL' : Nat} {ret ret' : Option FieldType} {e : Env} {s s₁ : State} {m : MethodId} {args : Array Value} {below : List Frame} {meth : Method} {c : Code} {hh : List (Nat × Nat × Nat × Nat)}
    (B : BodyLoose p l y S cc maxL ret e s m args below meth c s₁) (h : (Cond.codeWith y bytes maxL' ret' hh).before args s = true) : c.exceptionTable.toList = tableOf hh := by
  obtain ⟨m9, meth9, c9, hn9, h1, h2, -, -, h6, -⟩ := Cond.codeWith_spec h
  cases Option.some.inj (hn9.symm.trans B.named)
  cases Option.some.inj (h1.symm.trans B.method)
  cases Option.some.inj (h2.symm.trans (Stand.of_body B).code)
  rw [← h6, table_eq]
end Bodies
end VXA
/-! ===== END ===== -/
/-! ===== BEGIN a static call of a method with an exception table ===== -/
section VXS
variable {p : Program} {l : Launch} {e : Env} {R : Room} {s : State} {m : MethodId} {args : Array Value} {below : List Frame} {meth : Method} {c : Code} {T : State} {H : Heap} {locs : List Loc} {cells slots : Nat}
abbrev vx_CSW (R : Room) (s : State) (args : Array Value) (own : String) (index : Nat) (y : MethodName) (bytes : ByteArray) (maxL : Nat) (ret : Option FieldType) (hh : List (Nat × Nat × Nat × Nat)) (ws : List Cond) (rm : Room) (mc ms n : Nat) : Prop :=
  (rm.cells = mc ∧ rm.slots = ms ∧ rm.frames + 1 ≤ R.frames ∧ 8 + (maxL + 11) + rm.locals ≤ R.locals ∧ (∀ w ∈ ws, ∀ (a' : Array Value) (U : State), s.WarmedH U.vm → w.before a' U = true) ∧ Cond.codeWith y bytes maxL ret hh ∈ ws) ∧
  (Cond.codeWith y bytes maxL ret hh).before args s = true ∧ (Cond.initialized y.cls).before args s = true ∧ (y.cls ≠ "java/lang/invoke/MethodHandle" ∧ y.cls ≠ "java/lang/invoke/VarHandle") ∧
  (∀ sig, parseMethodDescriptor y.desc = some sig → n = sig.parameters.length) ∧ (Cond.methodLink own index y).before args s = true ∧ (Cond.static y).before args s = true
theorem vx_cwSW {own : String} {index maxL mc ms : Nat} {y : MethodName} {bytes : ByteArray} {ret : Option FieldType} {hh : List (Nat × Nat × Nat × Nat)} {Ts ws ws' : List Cond} {rm : Room} (n : Nat) (ht : ∀ w ∈ Ts, w.before args s = true) (hT : GoodIn Ts (va_wsS own index y ws)) (hw : ws = Cond.codeWith y bytes maxL ret hh :: ws') (hrc : rm.cells = mc) (hrs : rm.slots = ms)
    (hd : y.cls ≠ "java/lang/invoke/MethodHandle" ∧ y.cls ≠ "java/lang/invoke/VarHandle" ∧ (parseMethodDescriptor y.desc).map (fun d => d.parameters.length) = some n) (hR : rm.frames + 1 ≤ R.frames ∧ 8 + (maxL + 11) + rm.locals ≤ R.locals) :
    vx_CSW R s args own index y bytes maxL ret hh ws rm mc ms n := by
  have ok : ∀ w ∈ va_wsS own index y ws, w.before args s = true := fun w h => ht w (hT w h).1
  have hG : GoodIn Ts ws := fun w h => hT w (by unfold va_wsS; exact List.mem_append_right _ h)
  have hc : Cond.codeWith y bytes maxL ret hh ∈ ws := by rw [hw]; exact List.mem_cons_self
  refine ⟨⟨hrc, hrs, hR.1, hR.2, pay_in ht hG, hc⟩, ht _ (hG _ hc).1, ok _ (by simp [va_wsS]), ⟨hd.1, hd.2.1⟩, fun sig h => ?_, ok _ (by simp [va_wsS]), ok _ (by simp [va_wsS])⟩
  have h2 := hd.2.2
  rw [h] at h2
  exact (Option.some.inj h2).symm
theorem vx_callSW (X : Stand p l e R s m args below meth c T locs cells slots) (hexec : p.tables.exec = Jvm.exec) {own : String} {index : Nat} {y : MethodName} {bytes : ByteArray} {maxL : Nat} {ret : Option FieldType} {hh : List (Nat × Nat × Nat × Nat)}
    (hown : s.vm.findClass own = some m.cls) (hlink : (Cond.methodLink own index y).before args s = true) (hstat : (Cond.static y).before args s = true) (hinit : (Cond.initialized y.cls).before args s = true)
    (hcode : (Cond.codeWith y bytes maxL ret hh).before args s = true) (hy : y.cls ≠ "java/lang/invoke/MethodHandle" ∧ y.cls ≠ "java/lang/invoke/VarHandle")
    {W9 : Nat} {Pre : Pt → Array Value → Prop} {Post : Pt → Array Value → Option Value → Pt → Prop} (hK : Back l R p e below s args y 3 W9 Pre Post)
    {g : JFrame} (hg : g.method = m) (hsize : g.locals.size = c.maxLocals) {argsL rest : List Value} (hlen : ∀ sig, parseMethodDescriptor y.desc = some sig → argsL.length = sig.parameters.length)
    (hstack : g.stack = argsL.reverse ++ rest) (hW : 2 * g.monitorRoom + (rest.map fun v => v.category).sum ≤ W9) (hdg : decode c.code g.pc = .ok (.invokestatic index, 3))
    (hpre : ∀ vm₁, s.WarmedH vm₁ → Pre ⟨T.setVm vm₁, locs, cells, slots⟩ argsL.toArray) :
    ∃ (v : Option Value) (vm₁ : Vm) (B : Pt), s.WarmedH vm₁ ∧ Stand p l e R s m args below meth c B.U B.locs B.cells B.slots ∧ Post ⟨T.setVm vm₁, locs, cells, slots⟩ argsL.toArray v B ∧
      ∀ target, Steps p.tables e below (B.U.setTop { g with pc := g.pc + 3, stack := v.toList ++ rest }) target → Steps p.tables e below (T.setTop g) target := by
  obtain ⟨mk, methM, cM, hnamed, hmethM, -, -, -, -, -, -, hsigM⟩ := Cond.codeWith_spec hcode
  have hstatic : methM.isStatic = true := Cond.static_spec hnamed hmethM hstat
  obtain ⟨kP, hkP, -⟩ := className_of_methodNamed hnamed
  have hinitP : kP.init = .initialized := Cond.initialized_spec (findClass_of_methodNamed hnamed) hkP hinit
  obtain ⟨vm₁, X₁, hstep₁⟩ := X.invokestatic hexec hown hlink hnamed hmethM hstatic hkP hinitP hy (g := g) hg (argsL := argsL) (rest := rest) (hlen _ hsigM) hstack hdg
  obtain ⟨v, B, X', hpost, hsteps⟩ := hK m meth c ⟨T.setVm vm₁, locs, cells, slots⟩ { g with stack := rest } (.invokestatic index) mk argsL.toArray X₁ hg hsize hdg hW (X₁.named hnamed) (hpre vm₁ X₁.warmed)
  exact ⟨v, vm₁, B, X₁.warmed, X', hpost, fun target h => hstep₁ _ fun acts => by rw [doInvoke_state]; exact hsteps.trans h⟩
theorem vx_runSW {y : MethodName} {bytes cc : ByteArray} {maxL nL mc ms n index : Nat} {ret : Option FieldType} {hh : List (Nat × Nat × Nat × Nat)} {ws : List Cond} {rm : Room} {Pc : Array Value → State → Prop} {Qc : Array Value → State → Outcome → State → Prop} {free : Addr → Prop} {Ts : List Cond} {own : String} {As rest : List Value} {g : JFrame}
    (S : CallFix p m c cc nL s args Ts own) (hM : Met l y ws rm Pc Qc mc ms free) (cw : vx_CSW R s args own index y bytes maxL ret hh ws rm mc ms n) (hp : PreS s H Pc As)
    (hg : g.method = m) (hn : As.length = n) (hsize : g.locals.size = nL) (hstack : g.stack = As.reverse ++ rest) (hW : 2 * g.monitorRoom + (rest.map fun v => v.category).sum ≤ 8) (hdg : decode cc g.pc = .ok (.invokestatic index, 3)) (hf : cells + mc ≤ R.cells ∧ slots + ms ≤ R.slots) :
    va_Run p l e R s m args below meth c H locs cells slots mc ms g rest (Qc As.toArray) (free) := by
  obtain ⟨⟨hrc, hrs, hfr, hlo, hws, hcw⟩, hcode, hini, hy, hlen, hl, hstt⟩ := cw
  have hK : Back l R p e below s args y 3 8 (PreOf R mc ms Pc) (PostOf Qc mc ms free) := va_backW (hh := hh) (bytes := bytes) (maxL := maxL) (ret := ret) hM hp.1 hrc hrs hfr hlo hws hcw (fun a' U hW => word_at hW (Or.inl (by first | rfl | simp [Cond.onTables, Cond.keeps, Cond.steady])) hini)
  obtain ⟨hx, hb, hml, ho, -⟩ := S
  intro T hT X
  obtain ⟨v, vm₁, ⟨U', l2, c2, s2⟩, hW₁, X', ⟨g', mk, t, L, e1, e2, hq, h1, hL, h2, h3⟩, st⟩ := vx_callSW X hx (hh := hh) (bytes := bytes) (maxL := maxL) (ret := ret) ho hl hstt hini hcode hy hK hg (hsize.trans hml.symm) (argsL := As) (rest := rest) (fun sig h => hn.trans (hlen sig h)) hstack hW (by rw [hb]; exact hdg)
    (fun vm₁ hW₁ => ⟨hf.1, hf.2, hp.2 (T.setVm vm₁) hT hW₁⟩)
  dsimp only [Pt.U, Pt.locs, Pt.cells, Pt.slots] at X' e1 e2 h1 h2 h3 st
  subst h1; subst h2; subst h3
  exact ⟨v, (T.setVm vm₁).calling g' mk As.toArray, t, U', L, hT, X', hL, e1, e2, hq, st⟩
/-- not caught here, past rows that name other classes: it goes on to the caller -/
theorem vx_outP {p : Program} {l : Launch} {e : Env} {R : Room} {s : State} {m : MethodId} {args : Array Value} {below : List Frame} {meth : Method} {c : Code} {H : Heap} {locs : List Loc} {cells slots : Nat} {free : Addr → Prop} {ls : Array Slot} {rest : List Value} {Qc : Array Value → State → Outcome → State → Prop} {XC : String → State → State → Prop}
    {pc : Nat} {own E : String} {ce : Cell} {q : Addr} {mc ms : Nat} (hown : s.vm.findClass own = some m.cls) (hlocks : meth.locks = false)
    (hpass : ∀ z ∈ c.exceptionTable.toList, covers z pc = false ∨ (z.catchType ≠ 0 ∧ ∃ nm : String, (Cond.classLink own z.catchType nm).before args s = true ∧ va_Nc E nm s)) (hcell : H[q]? = some ce) (hv : ce.vm = .none) (hcl : s.vm.findClass E = some ce.cls)
    (hx : ∀ t : State, t.heap = H → s.vm.Alike t.vm → XC E s t) (hf : ∀ z ∈ locs, free z.base) (hc : cells ≤ mc) (hs : slots ≤ ms) :
    vx_W p l e R s m args below meth c H locs cells slots (vx_MQ below Qc XC args s mc ms free) (F0 m pc ls rest) q := by
  intro T hT X
  have hpl : e.platform.magicAccessors = ({} : Platform).magicAccessors := by rw [X.admits.platform]
  obtain ⟨vm', hW', X', st⟩ := X.outThrough hlocks q (g := F0 m pc ls rest) rfl rfl rfl (cell := ce) (by rw [hT]; exact hcell) (by rw [hv]; rfl)
    (by obtain ⟨k9, h9, -⟩ := Vm.findClass_spec hcl; exact ⟨k9, h9⟩) (fun z hz => by
      rcases hpass z hz with h | ⟨hz0, nm, hl1, hn1⟩
      · exact Or.inl h
      · obtain ⟨c6, hc6, hcl6⟩ := Cond.classLink_spec hown hl1 e.platform hpl
        obtain ⟨a8, b8, h1, h2, h3⟩ := hn1
        cases Option.some.inj (h1.symm.trans hcl)
        cases Option.some.inj (h2.symm.trans hc6)
        exact Or.inr ⟨hz0, _, hcl6, h3⟩)
  obtain ⟨g₀, hfr⟩ := X'.frames_eq
  have hcell9 : ((T.setVm vm').setFrames (.throwing q :: below)).heap[q]? = some ce := by
    show T.heap[q]? = some ce
    rw [hT]; exact hcell
  have hend : Ended ((T.setVm vm').setFrames (.throwing q :: below)) below (.threw q) := State.frames_setFrames _ (State.cur_lt_of_frames hfr)
  refine ⟨(T.setVm vm').setFrames (.throwing q :: below), ?_, .threw q, X'.here.running, hend, Or.inr ⟨q, rfl, E, ce, locs, hx _ hT (X'.ends _).1.alike, hcell9, hv, hcl, (X'.ends _).1, (X'.ends _).2.mono hc hs, hf⟩⟩
  rw [X.pushThrowing_eq]
  exact st
/-- a thing of a world lies in the heap -/
theorem vx_lt {D : va_G} {cl : List vw_C} {ws : va_W} {H1 : Heap} (h : va_P D cl ws H1) {k : Nat} {q : Nat × va_E} (hk : ws[k]? = some q) : q.1 < H1.size := (h k q hk).lt
end VXS
/-! ===== END ===== -/
/-! ===== BEGIN methods with a table of their own: called by a name, returning or throwing ===== -/
section VXH
/-! vx_backW, vx_callVX, vx_callSX, vx_callVW, vx_runVW, vx_runVX, vx_runSX, vx_ofWH follow the same proofs as their sisters above (Free/Laws.lean, Shelf42/LK1.lean); vx_outP calls Shelf42/NT130.lean (outThrough). -/
section
variable {l : Launch} {R : Room} {p : Program} {e : Env} {below : List Frame} {s : State} {sargs : Array Value} {y : MethodName} {len W9 : Nat}
theorem vx_backW {ws : List Cond} {rm : Room} {Pc : Array Value → State → Prop} {Qc : Array Value → State → Outcome → State → Prop} {XC : String → State → State → Prop} {mc ms : Nat} {free : Addr → Prop} {bytes : ByteArray} {maxL : Nat} {ret : Option FieldType} {hh : List (Nat × Nat × Nat × Nat)}
    (hM : vx_Met l y ws rm Pc Qc XC mc ms free) (hblind : FrameBlind Pc) (hrc : rm.cells = mc) (hrs : rm.slots = ms)
    (hframes : rm.frames + 1 ≤ R.frames) (hlocals : W9 + (maxL + 11) + rm.locals ≤ R.locals)
    (hws : ∀ w ∈ ws, ∀ a' U, s.WarmedH U.vm → w.before a' U = true) (hcode : Cond.codeWith y bytes maxL ret hh ∈ ws) (hinit : ∀ a' U, s.WarmedH U.vm → (Cond.initialized y.cls).before a' U = true) :
    vx_Back l R p e below s sargs y len W9 (PreOf R mc ms Pc) (PostOf Qc mc ms free) (vx_Post XC mc ms free) := by
  intro m meth c A g ig mk a X hg hsize hdg hW hn hp
  have h1 : (headSpec ws rm).pre.before a A.U = true := atoms_intro fun w hw => hws w hw _ _ X.warmed
  have h2 : (Cond.codeWith y bytes maxL ret hh).before a A.U = true := hws _ hcode _ _ X.warmed
  have h3 : (Cond.initialized y.cls).before a A.U = true := hinit _ _ X.warmed
  have h4 : A.cells + (headSpec ws rm).room.cells ≤ R.cells := by rw [show (headSpec ws rm).room.cells = mc from hrc]; exact hp.1
  have h5 : A.slots + (headSpec ws rm).room.slots ≤ R.slots := by rw [show (headSpec ws rm).room.slots = ms from hrs]; exact hp.2.1
  have hPc : Pc a (A.U.calling g mk a) := hblind _ _ _ _ hp.2.2
  obtain ⟨U, Ls, c0, s0⟩ := A
  dsimp only [Pt.U, Pt.locs, Pt.cells, Pt.slots] at h1 h2 h3 h4 h5 X hn hPc ⊢
  obtain ⟨m9, methY, cY, hn9, hmY, hcY, -, hlY, -⟩ := Cond.codeWith_spec h2
  cases Option.some.inj (hn9.symm.trans hn)
  obtain ⟨kY, hkY, -⟩ := className_of_methodNamed hn
  have hinitY : kY.init = .initialized := Cond.initialized_spec (findClass_of_methodNamed hn) hkY h3
  have h : At U g.method c below := by rw [hg]; exact X.here
  have hlocals9 : W9 + (maxL + 11) + (headSpec ws rm).room.locals ≤ R.locals := hlocals
  have happ : (headSpec ws rm).appliesLoose y e.platform (U.calling g mk a) = true :=
    Spec.appliesLoose_calling (g := g) h hdg hn hkY hinitY
      (X.room_calling (g := g) (R' := (headSpec ws rm).room) hsize hmY hcY hframes (by rw [hlY]; omega) h4 h5) h1
  obtain ⟨mid, hmid⟩ := h.above
  have hfr : (U.setTop g).frames = (.java g :: mid) ++ below := by rw [State.frames_setTop' g h.top, hmid]; rfl
  obtain ⟨o, s₂, hsteps, -, hend, hq⟩ := Steps.callFree hM p X.admits X.cas X.clock (acts := []) hfr happ hPc trivial
  have hq' : vx_Q Qc XC mc ms free a (U.calling g mk a) o s₂ := hq
  rw [State.frames_setTop' g h.top] at hend
  obtain ⟨g₀, hg0⟩ := Option.isSome_iff_exists.mp h.top
  obtain ⟨r, hr⟩ := State.topJava?_eq_some.mp hg0
  have hr' : (({ U with heap := s₂.heap, slotsUsed := s₂.slotsUsed } : State).setVm s₂.vm).frames = .java g₀ :: r := hr
  rcases hq' with ⟨hqc, L, hfe, hL⟩ | ⟨q, rfl, E, ce, L, hx, hce, hcv, hcl, hW₂, hsm, hL⟩
  · obtain ⟨⟨v, rfl⟩, hW₂, e2, q2, q3, q4, q5, q6⟩ := id hfe
    have e3 : s₂ = ({ (U.calling g mk a).setFrames s₂.frames with heap := s₂.heap, slotsUsed := s₂.slotsUsed } : State).setVm s₂.vm := by
      have : s₂ = ({ s₂ with vm := (U.calling g mk a).vm } : State).setVm s₂.vm := rfl
      rw [e2] at this
      exact this
    obtain ⟨c₂, i₂, len₂, hc₂, hd₂, hf₂⟩ := hend
    have hW' : U.WarmedH s₂.vm := hW₂
    have hcc : c₂ = c := by
      have h1 : s₂.code? g.method = U.code? g.method := by
        rw [State.code?_eq, State.code?_eq, hW'.alike.method?]
      exact Option.some.inj (hc₂.symm.trans (h1.trans h.code))
    subst hcc
    have hlen : len₂ = len := by rw [hdg] at hd₂; cases hd₂; rfl
    subst hlen
    have hs₂ : s₂ = (({ U with heap := s₂.heap, slotsUsed := s₂.slotsUsed } : State).setVm s₂.vm).setTop { g with pc := g.pc + len₂, stack := v.toList ++ g.stack } := by
      refine e3.trans ?_
      rw [hf₂, State.calling_eq h.top, State.setFrames_setFrames, State.setTop_of_frames _ hr', hr]
      rfl
    have hsame : U.sameButNew ({ U with heap := s₂.heap, slotsUsed := s₂.slotsUsed } : State) L mc ms := by
      refine ⟨?_, q2, q3, q4, q5, q6⟩
      obtain ⟨t, ht, -⟩ := State.frames_cons hr
      show ({ U with heap := s₂.heap, slotsUsed := s₂.slotsUsed } : State) = { U.setFrames U.frames with heap := s₂.heap, slotsUsed := s₂.slotsUsed }
      rw [State.setFrames_self ht]
    subst hg
    refine Or.inl ⟨v, ⟨(({ U with heap := s₂.heap, slotsUsed := s₂.slotsUsed } : State).setVm s₂.vm), Ls ++ L, c0 + mc, s0 + ms⟩,
      ⟨X.admits, X.cas, X.clock, X.frames, X.room, X.hears, X.method, X.code, (X.here.setHeapUsed s₂.heap s₂.slotsUsed).setVm hW'.alike, X.tail, State.WarmedH.trans X.warmed hW', X.limits, X.bytes, X.same.trans (hsame.setVm s.vm)⟩,
      ⟨g, mk, s₂, L, rfl, rfl, hqc, rfl, hL, rfl, rfl⟩, ?_⟩
    show Steps p.tables e below _ ((({ U with heap := s₂.heap, slotsUsed := s₂.slotsUsed } : State).setVm s₂.vm).setTop { g with pc := g.pc + len₂, stack := v.toList ++ g.stack })
    rw [← hs₂]
    exact hsteps
  · obtain ⟨e2, q2, q3, q4, q5, q6⟩ := id hsm
    have e3 : s₂ = ({ (U.calling g mk a).setFrames s₂.frames with heap := s₂.heap, slotsUsed := s₂.slotsUsed } : State).setVm s₂.vm := by
      have : s₂ = ({ s₂ with vm := (U.calling g mk a).vm } : State).setVm s₂.vm := rfl
      rw [e2] at this
      exact this
    have hf₂ : s₂.frames = .throwing q :: .java g :: U.frames.tail := hend
    have hW' : U.WarmedH s₂.vm := hW₂
    have hs₂ : s₂ = ((({ U with heap := s₂.heap, slotsUsed := s₂.slotsUsed } : State).setVm s₂.vm).setTop g).pushFrame (.throwing q) := by
      refine e3.trans ?_
      rw [hf₂, State.calling_eq h.top, State.setFrames_setFrames, State.pushFrame, State.frames_setTop _ hr', State.setTop_of_frames _ hr', State.setFrames_setFrames, hr]
      rfl
    have hsame : U.sameButNew ({ U with heap := s₂.heap, slotsUsed := s₂.slotsUsed } : State) L mc ms := by
      refine ⟨?_, q2, q3, q4, q5, q6⟩
      obtain ⟨t, ht, -⟩ := State.frames_cons hr
      show ({ U with heap := s₂.heap, slotsUsed := s₂.slotsUsed } : State) = { U.setFrames U.frames with heap := s₂.heap, slotsUsed := s₂.slotsUsed }
      rw [State.setFrames_self ht]
    subst hg
    refine Or.inr ⟨q, ⟨(({ U with heap := s₂.heap, slotsUsed := s₂.slotsUsed } : State).setVm s₂.vm), Ls ++ L, c0 + mc, s0 + ms⟩,
      ⟨X.admits, X.cas, X.clock, X.frames, X.room, X.hears, X.method, X.code, (X.here.setHeapUsed s₂.heap s₂.slotsUsed).setVm hW'.alike, X.tail, State.WarmedH.trans X.warmed hW', X.limits, X.bytes, X.same.trans (hsame.setVm s.vm)⟩,
      ⟨g, mk, s₂, L, E, ce, rfl, rfl, hx, hce, hcv, hcl, rfl, hL, rfl, rfl⟩, ?_⟩
    show Steps p.tables e below _ (((({ U with heap := s₂.heap, slotsUsed := s₂.slotsUsed } : State).setVm s₂.vm).setTop g).pushFrame (.throwing q))
    rw [← hs₂]
    exact hsteps
end
variable {p : Program} {l : Launch} {e : Env} {R : Room} {s : State} {m : MethodId} {args : Array Value} {below : List Frame} {meth : Method} {c : Code} {T : State} {H : Heap} {locs : List Loc} {cells slots : Nat}
theorem vx_callVX (X : Stand p l e R s m args below meth c T locs cells slots) (hexec : p.tables.exec = Jvm.exec) {own C : String} {index : Nat} {y : MethodName} {bytes : ByteArray} {maxL : Nat} {ret : Option FieldType} {hh : List (Nat × Nat × Nat × Nat)}
    (hown : s.vm.findClass own = some m.cls) (hlink : (Cond.methodLink own index y).before args s = true) (hinst : (Cond.instanceMethod y).before args s = true) (hsel : (Cond.selects C y y).before args s = true)
    (hcode : (Cond.codeWith y bytes maxL ret hh).before args s = true) (hy : y.cls ≠ "java/lang/invoke/MethodHandle" ∧ y.cls ≠ "java/lang/invoke/VarHandle")
    {W9 : Nat} {Pre : Pt → Array Value → Prop} {Post : Pt → Array Value → Option Value → Pt → Prop} {PostX : Pt → Array Value → Addr → Pt → Prop} (hK : vx_Back l R p e below s args y 3 W9 Pre Post PostX)
    {b : Addr} {cellB : Cell} (hcell : T.heap[b]? = some cellB) (hobj : cellB.vm.isStatics = false) (hcls : s.vm.findClass C = some cellB.cls)
    {g : JFrame} (hg : g.method = m) (hsize : g.locals.size = c.maxLocals) {argsL rest : List Value} (hlen : ∀ sig, parseMethodDescriptor y.desc = some sig → argsL.length = sig.parameters.length)
    (hstack : g.stack = argsL.reverse ++ .ref b :: rest) (hW : 2 * g.monitorRoom + (rest.map fun v => v.category).sum ≤ W9) (hdg : decode c.code g.pc = .ok (.invokevirtual index, 3))
    (hpre : ∀ vm₁, s.WarmedH vm₁ → Pre ⟨T.setVm vm₁, locs, cells, slots⟩ (Value.ref b :: argsL).toArray) :
    (∃ (v : Option Value) (vm₁ : Vm) (B : Pt), s.WarmedH vm₁ ∧ Stand p l e R s m args below meth c B.U B.locs B.cells B.slots ∧ Post ⟨T.setVm vm₁, locs, cells, slots⟩ (Value.ref b :: argsL).toArray v B ∧
      ∀ target, Steps p.tables e below (B.U.setTop { g with pc := g.pc + 3, stack := v.toList ++ rest }) target → Steps p.tables e below (T.setTop g) target) ∨
    (∃ (q : Addr) (vm₁ : Vm) (B : Pt), s.WarmedH vm₁ ∧ Stand p l e R s m args below meth c B.U B.locs B.cells B.slots ∧ PostX ⟨T.setVm vm₁, locs, cells, slots⟩ (Value.ref b :: argsL).toArray q B ∧
      Steps p.tables e below (T.setTop g) ((B.U.setTop { g with stack := rest }).pushFrame (.throwing q))) := by
  obtain ⟨mk, methM, hnamed, hmethM, hstM, habM⟩ := Cond.instanceMethod_spec hinst
  obtain ⟨m8, methM', cM, hn8, hmethM', -, -, -, -, -, -, hsigM⟩ := Cond.codeWith_spec hcode
  cases Option.some.inj (hn8.symm.trans hnamed)
  cases hmethM.symm.trans hmethM'
  obtain ⟨c2, r2, m2, q1, q2, q3, q4, kP, hkP, hkPi⟩ := Cond.selects_spec hsel
  cases hcls.symm.trans q1
  cases (State.methodFound?_of_named hnamed hy).symm.trans q2
  cases hnamed.symm.trans q3
  have hselP : selectMethod e.platform s.vm cellB.cls mk = .method mk := by rw [Launch.admits_selectMethod X.admits]; exact q4
  obtain ⟨vm₁, X₁, hstep₁⟩ := X.invokevirtual hexec hown hlink hnamed hmethM hstM hkP hkPi hy (a := b) (cell := cellB) hcell
    (fun z h => by rw [h] at hobj; cases hobj) hselP hmethM habM hkP hkPi (g := g) hg (argsL := argsL) (rest := rest) (hlen _ hsigM) hstack hdg
  rcases hK m meth c ⟨T.setVm vm₁, locs, cells, slots⟩ { g with stack := rest } (.invokevirtual index) mk (Value.ref b :: argsL).toArray X₁ hg hsize hdg hW (X₁.named hnamed) (hpre vm₁ X₁.warmed) with ⟨v, B, X', hpost, hsteps⟩ | ⟨q, B, X', hpost, hsteps⟩
  · exact Or.inl ⟨v, vm₁, B, X₁.warmed, X', hpost, fun target h => hstep₁ _ fun acts => by rw [doInvoke_state]; exact hsteps.trans h⟩
  · exact Or.inr ⟨q, vm₁, B, X₁.warmed, X', hpost, hstep₁ _ fun acts => by rw [doInvoke_state]; exact hsteps⟩
theorem vx_callSX (X : Stand p l e R s m args below meth c T locs cells slots) (hexec : p.tables.exec = Jvm.exec) {own : String} {index : Nat} {y : MethodName} {bytes : ByteArray} {maxL : Nat} {ret : Option FieldType} {hh : List (Nat × Nat × Nat × Nat)}
    (hown : s.vm.findClass own = some m.cls) (hlink : (Cond.methodLink own index y).before args s = true) (hstat : (Cond.static y).before args s = true) (hinit : (Cond.initialized y.cls).before args s = true)
    (hcode : (Cond.codeWith y bytes maxL ret hh).before args s = true) (hy : y.cls ≠ "java/lang/invoke/MethodHandle" ∧ y.cls ≠ "java/lang/invoke/VarHandle")
    {W9 : Nat} {Pre : Pt → Array Value → Prop} {Post : Pt → Array Value → Option Value → Pt → Prop} {PostX : Pt → Array Value → Addr → Pt → Prop} (hK : vx_Back l R p e below s args y 3 W9 Pre Post PostX)
    {g : JFrame} (hg : g.method = m) (hsize : g.locals.size = c.maxLocals) {argsL rest : List Value} (hlen : ∀ sig, parseMethodDescriptor y.desc = some sig → argsL.length = sig.parameters.length)
    (hstack : g.stack = argsL.reverse ++ rest) (hW : 2 * g.monitorRoom + (rest.map fun v => v.category).sum ≤ W9) (hdg : decode c.code g.pc = .ok (.invokestatic index, 3))
    (hpre : ∀ vm₁, s.WarmedH vm₁ → Pre ⟨T.setVm vm₁, locs, cells, slots⟩ argsL.toArray) :
    (∃ (v : Option Value) (vm₁ : Vm) (B : Pt), s.WarmedH vm₁ ∧ Stand p l e R s m args below meth c B.U B.locs B.cells B.slots ∧ Post ⟨T.setVm vm₁, locs, cells, slots⟩ argsL.toArray v B ∧
      ∀ target, Steps p.tables e below (B.U.setTop { g with pc := g.pc + 3, stack := v.toList ++ rest }) target → Steps p.tables e below (T.setTop g) target) ∨
    (∃ (q : Addr) (vm₁ : Vm) (B : Pt), s.WarmedH vm₁ ∧ Stand p l e R s m args below meth c B.U B.locs B.cells B.slots ∧ PostX ⟨T.setVm vm₁, locs, cells, slots⟩ argsL.toArray q B ∧
      Steps p.tables e below (T.setTop g) ((B.U.setTop { g with stack := rest }).pushFrame (.throwing q))) := by
  obtain ⟨mk, methM, cM, hnamed, hmethM, -, -, -, -, -, -, hsigM⟩ := Cond.codeWith_spec hcode
  have hstatic : methM.isStatic = true := Cond.static_spec hnamed hmethM hstat
  obtain ⟨kP, hkP, -⟩ := className_of_methodNamed hnamed
  have hinitP : kP.init = .initialized := Cond.initialized_spec (findClass_of_methodNamed hnamed) hkP hinit
  obtain ⟨vm₁, X₁, hstep₁⟩ := X.invokestatic hexec hown hlink hnamed hmethM hstatic hkP hinitP hy (g := g) hg (argsL := argsL) (rest := rest) (hlen _ hsigM) hstack hdg
  rcases hK m meth c ⟨T.setVm vm₁, locs, cells, slots⟩ { g with stack := rest } (.invokestatic index) mk argsL.toArray X₁ hg hsize hdg hW (X₁.named hnamed) (hpre vm₁ X₁.warmed) with ⟨v, B, X', hpost, hsteps⟩ | ⟨q, B, X', hpost, hsteps⟩
  · exact Or.inl ⟨v, vm₁, B, X₁.warmed, X', hpost, fun target h => hstep₁ _ fun acts => by rw [doInvoke_state]; exact hsteps.trans h⟩
  · exact Or.inr ⟨q, vm₁, B, X₁.warmed, X', hpost, hstep₁ _ fun acts => by rw [doInvoke_state]; exact hsteps⟩
theorem vx_callVW (X : Stand p l e R s m args below meth c T locs cells slots) (hexec : p.tables.exec = Jvm.exec) {own C : String} {index : Nat} {y : MethodName} {bytes : ByteArray} {maxL : Nat} {ret : Option FieldType} {hh : List (Nat × Nat × Nat × Nat)}
    (hown : s.vm.findClass own = some m.cls) (hlink : (Cond.methodLink own index y).before args s = true) (hinst : (Cond.instanceMethod y).before args s = true) (hsel : (Cond.selects C y y).before args s = true)
    (hcode : (Cond.codeWith y bytes maxL ret hh).before args s = true) (hy : y.cls ≠ "java/lang/invoke/MethodHandle" ∧ y.cls ≠ "java/lang/invoke/VarHandle")
    {W9 : Nat} {Pre : Pt → Array Value → Prop} {Post : Pt → Array Value → Option Value → Pt → Prop} (hK : Back l R p e below s args y 3 W9 Pre Post)
    {b : Addr} {cellB : Cell} (hcell : T.heap[b]? = some cellB) (hobj : cellB.vm.isStatics = false) (hcls : s.vm.findClass C = some cellB.cls)
    {g : JFrame} (hg : g.method = m) (hsize : g.locals.size = c.maxLocals) {argsL rest : List Value} (hlen : ∀ sig, parseMethodDescriptor y.desc = some sig → argsL.length = sig.parameters.length)
    (hstack : g.stack = argsL.reverse ++ .ref b :: rest) (hW : 2 * g.monitorRoom + (rest.map fun v => v.category).sum ≤ W9) (hdg : decode c.code g.pc = .ok (.invokevirtual index, 3))
    (hpre : ∀ vm₁, s.WarmedH vm₁ → Pre ⟨T.setVm vm₁, locs, cells, slots⟩ (Value.ref b :: argsL).toArray) :
    ∃ (v : Option Value) (vm₁ : Vm) (B : Pt), s.WarmedH vm₁ ∧ Stand p l e R s m args below meth c B.U B.locs B.cells B.slots ∧ Post ⟨T.setVm vm₁, locs, cells, slots⟩ (Value.ref b :: argsL).toArray v B ∧
      ∀ target, Steps p.tables e below (B.U.setTop { g with pc := g.pc + 3, stack := v.toList ++ rest }) target → Steps p.tables e below (T.setTop g) target := by
  obtain ⟨mk, methM, hnamed, hmethM, hstM, habM⟩ := Cond.instanceMethod_spec hinst
  obtain ⟨m8, methM', cM, hn8, hmethM', -, -, -, -, -, -, hsigM⟩ := Cond.codeWith_spec hcode
  cases Option.some.inj (hn8.symm.trans hnamed)
  cases hmethM.symm.trans hmethM'
  obtain ⟨c2, r2, m2, q1, q2, q3, q4, kP, hkP, hkPi⟩ := Cond.selects_spec hsel
  cases hcls.symm.trans q1
  cases (State.methodFound?_of_named hnamed hy).symm.trans q2
  cases hnamed.symm.trans q3
  have hselP : selectMethod e.platform s.vm cellB.cls mk = .method mk := by rw [Launch.admits_selectMethod X.admits]; exact q4
  obtain ⟨vm₁, X₁, hstep₁⟩ := X.invokevirtual hexec hown hlink hnamed hmethM hstM hkP hkPi hy (a := b) (cell := cellB) hcell
    (fun z h => by rw [h] at hobj; cases hobj) hselP hmethM habM hkP hkPi (g := g) hg (argsL := argsL) (rest := rest) (hlen _ hsigM) hstack hdg
  obtain ⟨v, B, X', hpost, hsteps⟩ := hK m meth c ⟨T.setVm vm₁, locs, cells, slots⟩ { g with stack := rest } (.invokevirtual index) mk (Value.ref b :: argsL).toArray X₁ hg hsize hdg hW (X₁.named hnamed) (hpre vm₁ X₁.warmed)
  exact ⟨v, vm₁, B, X₁.warmed, X', hpost, fun target h => hstep₁ _ fun acts => by rw [doInvoke_state]; exact hsteps.trans h⟩
abbrev vx_CVW (R : Room) (s : State) (args : Array Value) (own C : String) (index : Nat) (y : MethodName) (bytes : ByteArray) (maxL : Nat) (ret : Option FieldType) (hh : List (Nat × Nat × Nat × Nat)) (ws : List Cond) (rm : Room) (mc ms n : Nat) : Prop :=
  (rm.cells = mc ∧ rm.slots = ms ∧ rm.frames + 1 ≤ R.frames ∧ 8 + (maxL + 11) + rm.locals ≤ R.locals ∧ (∀ w ∈ ws, ∀ (a' : Array Value) (U : State), s.WarmedH U.vm → w.before a' U = true) ∧ Cond.codeWith y bytes maxL ret hh ∈ ws) ∧
  (Cond.codeWith y bytes maxL ret hh).before args s = true ∧ (Cond.initialized y.cls).before args s = true ∧ (y.cls ≠ "java/lang/invoke/MethodHandle" ∧ y.cls ≠ "java/lang/invoke/VarHandle") ∧
  (∀ sig, parseMethodDescriptor y.desc = some sig → n = sig.parameters.length) ∧ (Cond.methodLink own index y).before args s = true ∧ (Cond.instanceMethod y).before args s = true ∧ (Cond.selects C y y).before args s = true
theorem vx_cwVW {own C : String} {index maxL mc ms : Nat} {y : MethodName} {bytes : ByteArray} {ret : Option FieldType} {hh : List (Nat × Nat × Nat × Nat)} {Ts ws ws' : List Cond} {rm : Room} (n : Nat) (ht : ∀ w ∈ Ts, w.before args s = true) (hT : GoodIn Ts (wsV own index C y ws)) (hw : ws = Cond.codeWith y bytes maxL ret hh :: ws') (hrc : rm.cells = mc) (hrs : rm.slots = ms)
    (hd : y.cls = C ∧ y.cls ≠ "java/lang/invoke/MethodHandle" ∧ y.cls ≠ "java/lang/invoke/VarHandle" ∧ (parseMethodDescriptor y.desc).map (fun d => d.parameters.length) = some n) (hR : rm.frames + 1 ≤ R.frames ∧ 8 + (maxL + 11) + rm.locals ≤ R.locals) :
    vx_CVW R s args own C index y bytes maxL ret hh ws rm mc ms n := by
  obtain ⟨hC, hd⟩ := hd
  subst hC
  have ok : ∀ w ∈ wsV own index y.cls y ws, w.before args s = true := fun w h => ht w (hT w h).1
  have hG : GoodIn Ts ws := fun w h => hT w (by unfold wsV; exact List.mem_append_right _ h)
  have hc : Cond.codeWith y bytes maxL ret hh ∈ ws := by rw [hw]; exact List.mem_cons_self
  refine ⟨⟨hrc, hrs, hR.1, hR.2, pay_in ht hG, hc⟩, ht _ (hG _ hc).1, ok _ (by simp [wsV]), ⟨hd.1, hd.2.1⟩, fun sig h => ?_, ok _ (by simp [wsV]), ok _ (by simp [wsV]), ok _ (by simp [wsV])⟩
  have h2 := hd.2.2
  rw [h] at h2
  exact (Option.some.inj h2).symm
theorem vx_runVW {y : MethodName} {bytes cc : ByteArray} {maxL nL mc ms n index : Nat} {ret : Option FieldType} {hh : List (Nat × Nat × Nat × Nat)} {ws : List Cond} {rm : Room} {Pc : Array Value → State → Prop} {Qc : Array Value → State → Outcome → State → Prop} {free : Addr → Prop} {Ts : List Cond} {own C : String} {b : Addr} {As rest : List Value} {g : JFrame}
    (S : CallFix p m c cc nL s args Ts own) (hM : Met l y ws rm Pc Qc mc ms free) (cw : vx_CVW R s args own C index y bytes maxL ret hh ws rm mc ms n) (hp : PreV s H C b Pc As)
    (hg : g.method = m) (hn : As.length = n) (hsize : g.locals.size = nL) (hstack : g.stack = As.reverse ++ .ref b :: rest) (hW : 2 * g.monitorRoom + (rest.map fun v => v.category).sum ≤ 8) (hdg : decode cc g.pc = .ok (.invokevirtual index, 3)) (hf : cells + mc ≤ R.cells ∧ slots + ms ≤ R.slots) :
    va_Run p l e R s m args below meth c H locs cells slots mc ms g rest (Qc (Value.ref b :: As).toArray) free := by
  obtain ⟨⟨hrc, hrs, hfr, hlo, hws, hcw⟩, hcode, hini, hy, hlen, hl, hin, hse⟩ := cw
  have hK : Back l R p e below s args y 3 8 (PreOf R mc ms Pc) (PostOf Qc mc ms free) := va_backW (hh := hh) (bytes := bytes) (maxL := maxL) (ret := ret) hM hp.1 hrc hrs hfr hlo hws hcw (fun a' U hW => word_at hW (Or.inl (by first | rfl | simp [Cond.onTables, Cond.keeps, Cond.steady])) hini)
  obtain ⟨hx, hb, hml, ho, -⟩ := S
  obtain ⟨-, ⟨cellB, hcB, hoB, hclB⟩, hPc⟩ := hp
  intro T hT X
  obtain ⟨v, vm₁, ⟨U', l2, c2, s2⟩, hW₁, X', ⟨g', mk, t, L, e1, e2, hq, h1, hL, h2, h3⟩, st⟩ := vx_callVW X hx (C := C) (hh := hh) (bytes := bytes) (maxL := maxL) (ret := ret) ho hl hin hse hcode hy hK (by rw [hT]; exact hcB) hoB hclB hg (hsize.trans hml.symm) (argsL := As) (rest := rest) (fun sig h => hn.trans (hlen sig h)) hstack hW (by rw [hb]; exact hdg)
    (fun vm₁ hW₁ => ⟨hf.1, hf.2, hPc (T.setVm vm₁) hT hW₁⟩)
  dsimp only [Pt.U, Pt.locs, Pt.cells, Pt.slots] at X' e1 e2 h1 h2 h3 st
  subst h1; subst h2; subst h3
  exact ⟨v, (T.setVm vm₁).calling g' mk (Value.ref b :: As).toArray, t, U', L, hT, X', hL, e1, e2, hq, st⟩
section
variable {y : MethodName} {bytes cc : ByteArray} {maxL nL mc ms n index : Nat} {ret : Option FieldType} {ws : List Cond} {rm : Room} {Pc : Array Value → State → Prop} {Qc : Array Value → State → Outcome → State → Prop} {XC : String → State → State → Prop} {free : Addr → Prop} {Ts : List Cond} {own C : String} {b : Addr} {As rest : List Value} {g : JFrame}
theorem vx_runVX {hh : List (Nat × Nat × Nat × Nat)} (S : CallFix p m c cc nL s args Ts own) (hM : vx_Met l y ws rm Pc Qc XC mc ms free) (cw : vx_CVW R s args own C index y bytes maxL ret hh ws rm mc ms n) (hp : PreV s H C b Pc As)
    (hg : g.method = m) (hn : As.length = n) (hsize : g.locals.size = nL) (hstack : g.stack = As.reverse ++ .ref b :: rest) (hW : 2 * g.monitorRoom + (rest.map fun v => v.category).sum ≤ 8) (hdg : decode cc g.pc = .ok (.invokevirtual index, 3)) (hf : cells + mc ≤ R.cells ∧ slots + ms ≤ R.slots) :
    vx_Run p l e R s m args below meth c H locs cells slots mc ms g rest (Qc (Value.ref b :: As).toArray) XC free := by
  obtain ⟨⟨hrc, hrs, hfr, hlo, hws, hcw⟩, hcode, hini, hy, hlen, hl, hin, hse⟩ := cw
  have hK : vx_Back l R p e below s args y 3 8 (PreOf R mc ms Pc) (PostOf Qc mc ms free) (vx_Post XC mc ms free) := vx_backW (hh := hh) (bytes := bytes) (maxL := maxL) (ret := ret) hM hp.1 hrc hrs hfr hlo hws hcw (fun a' U hW => word_at hW (Or.inl (by first | rfl | simp [Cond.onTables, Cond.keeps, Cond.steady])) hini)
  obtain ⟨hx, hb, hml, ho, -⟩ := S
  obtain ⟨-, ⟨cellB, hcB, hoB, hclB⟩, hPc⟩ := hp
  intro T hT X
  rcases vx_callVX X hx (C := C) (hh := hh) (bytes := bytes) (maxL := maxL) (ret := ret) ho hl hin hse hcode hy hK (by rw [hT]; exact hcB) hoB hclB hg (hsize.trans hml.symm) (argsL := As) (rest := rest) (fun sig h => hn.trans (hlen sig h)) hstack hW (by rw [hb]; exact hdg)
    (fun vm₁ hW₁ => ⟨hf.1, hf.2, hPc (T.setVm vm₁) hT hW₁⟩) with ⟨v, vm₁, ⟨U', l2, c2, s2⟩, hW₁, X', ⟨g', mk, t, L, e1, e2, hq, h1, hL, h2, h3⟩, st⟩ | ⟨q, vm₁, ⟨U', l2, c2, s2⟩, hW₁, X', ⟨g', mk, t, L, E, ce, e1, e2, hq, hce, hcv, hcl, h1, hL, h2, h3⟩, st⟩
  · dsimp only [Pt.U, Pt.locs, Pt.cells, Pt.slots] at X' e1 e2 h1 h2 h3 st
    subst h1; subst h2; subst h3
    exact Or.inl ⟨v, (T.setVm vm₁).calling g' mk (Value.ref b :: As).toArray, t, U', L, hT, X', hL, e1, e2, hq, st⟩
  · dsimp only [Pt.U, Pt.locs, Pt.cells, Pt.slots] at X' e1 e2 h1 h2 h3 st hcl
    subst h1; subst h2; subst h3
    exact Or.inr ⟨q, (T.setVm vm₁).calling g' mk (Value.ref b :: As).toArray, t, U', L, E, ce, hT, X', hL, e1, e2, hq, hce, hcv, vx_cls hW₁ hcl, st⟩
theorem vx_runSX {hh : List (Nat × Nat × Nat × Nat)} (S : CallFix p m c cc nL s args Ts own) (hM : vx_Met l y ws rm Pc Qc XC mc ms free) (cw : vx_CSW R s args own index y bytes maxL ret hh ws rm mc ms n) (hp : PreS s H Pc As)
    (hg : g.method = m) (hn : As.length = n) (hsize : g.locals.size = nL) (hstack : g.stack = As.reverse ++ rest) (hW : 2 * g.monitorRoom + (rest.map fun v => v.category).sum ≤ 8) (hdg : decode cc g.pc = .ok (.invokestatic index, 3)) (hf : cells + mc ≤ R.cells ∧ slots + ms ≤ R.slots) :
    vx_Run p l e R s m args below meth c H locs cells slots mc ms g rest (Qc As.toArray) XC free := by
  obtain ⟨⟨hrc, hrs, hfr, hlo, hws, hcw⟩, hcode, hini, hy, hlen, hl, hstt⟩ := cw
  have hK : vx_Back l R p e below s args y 3 8 (PreOf R mc ms Pc) (PostOf Qc mc ms free) (vx_Post XC mc ms free) := vx_backW (hh := hh) (bytes := bytes) (maxL := maxL) (ret := ret) hM hp.1 hrc hrs hfr hlo hws hcw (fun a' U hW => word_at hW (Or.inl (by first | rfl | simp [Cond.onTables, Cond.keeps, Cond.steady])) hini)
  obtain ⟨hx, hb, hml, ho, -⟩ := S
  intro T hT X
  rcases vx_callSX X hx (hh := hh) (bytes := bytes) (maxL := maxL) (ret := ret) ho hl hstt hini hcode hy hK hg (hsize.trans hml.symm) (argsL := As) (rest := rest) (fun sig h => hn.trans (hlen sig h)) hstack hW (by rw [hb]; exact hdg)
    (fun vm₁ hW₁ => ⟨hf.1, hf.2, hp.2 (T.setVm vm₁) hT hW₁⟩) with ⟨v, vm₁, ⟨U', l2, c2, s2⟩, hW₁, X', ⟨g', mk, t, L, e1, e2, hq, h1, hL, h2, h3⟩, st⟩ | ⟨q, vm₁, ⟨U', l2, c2, s2⟩, hW₁, X', ⟨g', mk, t, L, E, ce, e1, e2, hq, hce, hcv, hcl, h1, hL, h2, h3⟩, st⟩
  · dsimp only [Pt.U, Pt.locs, Pt.cells, Pt.slots] at X' e1 e2 h1 h2 h3 st
    subst h1; subst h2; subst h3
    exact Or.inl ⟨v, (T.setVm vm₁).calling g' mk As.toArray, t, U', L, hT, X', hL, e1, e2, hq, st⟩
  · dsimp only [Pt.U, Pt.locs, Pt.cells, Pt.slots] at X' e1 e2 h1 h2 h3 st hcl
    subst h1; subst h2; subst h3
    exact Or.inr ⟨q, (T.setVm vm₁).calling g' mk As.toArray, t, U', L, E, ce, hT, X', hL, e1, e2, hq, hce, hcv, vx_cls hW₁ hcl, st⟩
end
end VXH
theorem vx_ofWH {l : Launch} {y : MethodName} {ws ws' : List Cond} {rm : Room} {Pc : Array Value → State → Prop} {Qc : Array Value → State → Outcome → State → Prop} {XC : String → State → State → Prop} {mc ms : Nat} {free : Addr → Prop} {cc : ByteArray} {maxL : Nat} {ret : Option FieldType} {hh : List (Nat × Nat × Nat × Nat)}
    (hy : plainName y.cls = true) (hw : ws = Cond.codeWith y cc maxL ret hh :: ws')
    (body : ∀ p e s m args below meth c s₁, BodyLoose p l y (headSpec ws rm) cc maxL ret e s m args below meth c s₁ → c.maxLocals = maxL → Pc args s →
      W p l e (headSpec ws rm).room s m args below meth c s.heap [] 0 0 (vx_MQ below Qc XC args s mc ms free) (entryFrame m args maxL)) : vx_Met l y ws rm Pc Qc XC mc ms free := by
  refine MetFree.of_bodyS (code := cc) (maxLocals := maxL) (ret := ret) hy ?_ ?_
  · intro args s m h hn
    obtain ⟨m9, meth, c, hn9, h1, h2, h3, h4, -, h5, h6, -⟩ := Cond.codeWith_spec (atoms_spec (ws := ws) h _ (by rw [hw]; exact List.mem_cons_self))
    cases hn.symm.trans hn9
    exact ⟨meth, c, h1, h2, h3, h4, h5, h6⟩
  · intro p e s m args below meth c s₁ B hml hP _
    have hh0 : s₁.heap = s.heap := by rw [B.state]; rfl
    obtain ⟨t, a1, o, b1, b2, b3⟩ := body p e s m args below meth c s₁ B hml hP s₁ hh0 (Stand.of_body B)
    exact ⟨t, o, a1, b1, b2, b3⟩
/-! ===== END ===== -/
end
section
/-! ===== BEGIN printed: names, fields, word lists, decode rows ===== -/
def RX0 : String := "CreditGame$Credits"
def TX0 : u_T := fun k => match k with
  | 0 => ("CreditGame$Credits", "graph", "LCreditGame$Graph;", true)
  | 1 => ("CreditGame$Credits", "values", "LCreditGame$Values;", true)
  | 2 => ("CreditGame$Credits", "need", "[I", true)
  | _ => ("CreditGame$Credits", "gain", "[I", true)
def tyX0 : Nat → FieldType := fun k => match k with
  | 0 => .object "CreditGame$Graph"
  | 1 => .object "CreditGame$Values"
  | 2 => .array .int
  | _ => .array .int
abbrev wsX00 : List Cond := u_ws RX0 TX0 4
theorem nmX0 : ∀ a, a < 4 → ∀ b, b < 4 → a ≠ b → (TX0 a).2.1 ≠ (TX0 b).2.1 := by decide +kernel
theorem tyX0_ok : ∀ k, k < 4 → parseFieldDescriptor (TX0 k).2.2.1 = some (tyX0 k) := by decide +kernel
abbrev cX0_init : ByteArray := prog_2_method_1_code
def yX0_init : MethodName := ⟨RX0, "<init>", "(LCreditGame$Graph;LCreditGame$Values;)V"⟩
abbrev cX0_solve : ByteArray := prog_2_method_2_code
def yX0_solve : MethodName := ⟨RX0, "solve", "(III)V"⟩
abbrev cX0_isGoodFor : ByteArray := prog_2_method_3_code
def yX0_isGoodFor : MethodName := ⟨RX0, "isGoodFor", "(II)Z"⟩
abbrev cX0_enoughAt : ByteArray := prog_2_method_4_code
def yX0_enoughAt : MethodName := ⟨RX0, "enoughAt", "(IZ)I"⟩
abbrev cX0_needBefore : ByteArray := prog_2_method_5_code
def yX0_needBefore : MethodName := ⟨RX0, "needBefore", "(I)I"⟩
abbrev cX0_allows : ByteArray := prog_2_method_6_code
def yX0_allows : MethodName := ⟨RX0, "allows", "(II)Z"⟩
abbrev cX0_needOf : ByteArray := prog_2_method_7_code
def yX0_needOf : MethodName := ⟨RX0, "needOf", "(I)I"⟩
abbrev cX0_gainOf : ByteArray := prog_2_method_8_code
def yX0_gainOf : MethodName := ⟨RX0, "gainOf", "(I)I"⟩
def RX1 : String := "CreditGame$Graph"
def TX1 : u_T := fun k => match k with
  | 0 => ("CreditGame$Graph", "owner", "[I", true)
  | 1 => ("CreditGame$Graph", "fixedTo", "[I", true)
  | 2 => ("CreditGame$Graph", "outCount", "[I", true)
  | 3 => ("CreditGame$Graph", "out", "[[I", true)
  | 4 => ("CreditGame$Graph", "source", "[I", true)
  | 5 => ("CreditGame$Graph", "target", "[I", true)
  | 6 => ("CreditGame$Graph", "weight", "[I", true)
  | 7 => ("CreditGame$Graph", "vertexCount", "I", false)
  | _ => ("CreditGame$Graph", "edgeCount", "I", false)
def tyX1 : Nat → FieldType := fun k => match k with
  | 0 => .array .int
  | 1 => .array .int
  | 2 => .array .int
  | 3 => .array (.array .int)
  | 4 => .array .int
  | 5 => .array .int
  | 6 => .array .int
  | 7 => .int
  | _ => .int
abbrev wsX10 : List Cond := u_ws RX1 TX1 9
theorem nmX1 : ∀ a, a < 9 → ∀ b, b < 9 → a ≠ b → (TX1 a).2.1 ≠ (TX1 b).2.1 := by decide +kernel
theorem tyX1_ok : ∀ k, k < 9 → parseFieldDescriptor (TX1 k).2.2.1 = some (tyX1 k) := by decide +kernel
abbrev cX1_init : ByteArray := prog_3_method_1_code
def yX1_init : MethodName := ⟨RX1, "<init>", "()V"⟩
abbrev cX1_addVertex : ByteArray := prog_3_method_2_code
def yX1_addVertex : MethodName := ⟨RX1, "addVertex", "(I)I"⟩
abbrev cX1_addEdge : ByteArray := prog_3_method_3_code
def yX1_addEdge : MethodName := ⟨RX1, "addEdge", "(III)I"⟩
abbrev cX1_hasVertex : ByteArray := prog_3_method_4_code
def yX1_hasVertex : MethodName := ⟨RX1, "hasVertex", "(I)Z"⟩
abbrev cX1_isFrom : ByteArray := prog_3_method_5_code
def yX1_isFrom : MethodName := ⟨RX1, "isFrom", "(II)Z"⟩
abbrev cX1_ownerOf : ByteArray := prog_3_method_6_code
def yX1_ownerOf : MethodName := ⟨RX1, "ownerOf", "(I)I"⟩
abbrev cX1_fixedOf : ByteArray := prog_3_method_7_code
def yX1_fixedOf : MethodName := ⟨RX1, "fixedOf", "(I)I"⟩
abbrev cX1_setFixed : ByteArray := prog_3_method_8_code
def yX1_setFixed : MethodName := ⟨RX1, "setFixed", "(II)V"⟩
abbrev cX1_targetOf : ByteArray := prog_3_method_9_code
def yX1_targetOf : MethodName := ⟨RX1, "targetOf", "(I)I"⟩
abbrev cX1_weightOf : ByteArray := prog_3_method_10_code
def yX1_weightOf : MethodName := ⟨RX1, "weightOf", "(I)I"⟩
abbrev cX1_waysFrom : ByteArray := prog_3_method_11_code
def yX1_waysFrom : MethodName := ⟨RX1, "waysFrom", "(I)I"⟩
abbrev cX1_wayFrom : ByteArray := prog_3_method_12_code
def yX1_wayFrom : MethodName := ⟨RX1, "wayFrom", "(II)I"⟩
abbrev cX1_isComplete : ByteArray := prog_3_method_13_code
def yX1_isComplete : MethodName := ⟨RX1, "isComplete", "()Z"⟩
def RX2 : String := "CreditGame$Path"
def TX2 : u_T := fun k => match k with
  | 0 => ("CreditGame$Path", "steps", "[I", true)
  | _ => ("CreditGame$Path", "sums", "[I", true)
def tyX2 : Nat → FieldType := fun k => match k with
  | 0 => .array .int
  | _ => .array .int
abbrev wsX20 : List Cond := u_ws RX2 TX2 2
theorem nmX2 : ∀ a, a < 2 → ∀ b, b < 2 → a ≠ b → (TX2 a).2.1 ≠ (TX2 b).2.1 := by decide +kernel
theorem tyX2_ok : ∀ k, k < 2 → parseFieldDescriptor (TX2 k).2.2.1 = some (tyX2 k) := by decide +kernel
abbrev cX2_init : ByteArray := prog_4_method_1_code
def yX2_init : MethodName := ⟨RX2, "<init>", "()V"⟩
abbrev cX2_clear : ByteArray := prog_4_method_2_code
def yX2_clear : MethodName := ⟨RX2, "clear", "()V"⟩
abbrev cX2_isPlace : ByteArray := prog_4_method_3_code
def yX2_isPlace : MethodName := ⟨RX2, "isPlace", "(I)Z"⟩
abbrev cX2_has : ByteArray := prog_4_method_4_code
def yX2_has : MethodName := ⟨RX2, "has", "(I)Z"⟩
abbrev cX2_enter : ByteArray := prog_4_method_5_code
def yX2_enter : MethodName := ⟨RX2, "enter", "(III)V"⟩
abbrev cX2_leave : ByteArray := prog_4_method_6_code
def yX2_leave : MethodName := ⟨RX2, "leave", "(I)V"⟩
abbrev cX2_stepsTo : ByteArray := prog_4_method_7_code
def yX2_stepsTo : MethodName := ⟨RX2, "stepsTo", "(I)I"⟩
abbrev cX2_sumTo : ByteArray := prog_4_method_8_code
def yX2_sumTo : MethodName := ⟨RX2, "sumTo", "(I)I"⟩
def RX3 : String := "CreditGame$Values"
def TX3 : u_T := fun k => match k with
  | 0 => ("CreditGame$Values", "graph", "LCreditGame$Graph;", true)
  | 1 => ("CreditGame$Values", "path", "LCreditGame$Path;", true)
  | 2 => ("CreditGame$Values", "known", "[Z", true)
  | _ => ("CreditGame$Values", "parts", "[I", true)
def tyX3 : Nat → FieldType := fun k => match k with
  | 0 => .object "CreditGame$Graph"
  | 1 => .object "CreditGame$Path"
  | 2 => .array .boolean
  | _ => .array .int
abbrev wsX30 : List Cond := u_ws RX3 TX3 4
theorem nmX3 : ∀ a, a < 4 → ∀ b, b < 4 → a ≠ b → (TX3 a).2.1 ≠ (TX3 b).2.1 := by decide +kernel
theorem tyX3_ok : ∀ k, k < 4 → parseFieldDescriptor (TX3 k).2.2.1 = some (tyX3 k) := by decide +kernel
abbrev cX3_init : ByteArray := prog_5_method_1_code
def yX3_init : MethodName := ⟨RX3, "<init>", "(LCreditGame$Graph;)V"⟩
abbrev cX3_forget : ByteArray := prog_5_method_2_code
def yX3_forget : MethodName := ⟨RX3, "forget", "()V"⟩
abbrev cX3_findAll : ByteArray := prog_5_method_3_code
def yX3_findAll : MethodName := ⟨RX3, "findAll", "()V"⟩
abbrev cX3_find : ByteArray := prog_5_method_4_code
def yX3_find : MethodName := ⟨RX3, "find", "(I)V"⟩
abbrev cX3_topOf : ByteArray := prog_5_method_5_code
def yX3_topOf : MethodName := ⟨RX3, "topOf", "(I)I"⟩
abbrev cX3_bottomOf : ByteArray := prog_5_method_6_code
def yX3_bottomOf : MethodName := ⟨RX3, "bottomOf", "(I)I"⟩
abbrev cX3_order : ByteArray := prog_5_method_7_code
def yX3_order : MethodName := ⟨RX3, "order", "(III)I"⟩
abbrev cX3_partsOf : ByteArray := prog_5_method_8_code
def yX3_partsOf : MethodName := ⟨RX3, "partsOf", "(I)I"⟩
abbrev cX3_playAt : ByteArray := prog_5_method_9_code
def yX3_playAt : MethodName := ⟨RX3, "playAt", "(IIIII)I"⟩
abbrev cX3_greatestPay : ByteArray := prog_5_method_10_code
def yX3_greatestPay : MethodName := ⟨RX3, "greatestPay", "(IIIII)I"⟩
abbrev cX3_leastPay : ByteArray := prog_5_method_11_code
def yX3_leastPay : MethodName := ⟨RX3, "leastPay", "(IIIII)I"⟩
abbrev cX3_loopParts : ByteArray := prog_5_method_12_code
def yX3_loopParts : MethodName := ⟨RX3, "loopParts", "(II)I"⟩
def RX4 : String := "CreditGame"
def TX4 : u_T := fun k => match k with
  | 0 => ("CreditGame", "graph", "LCreditGame$Graph;", true)
  | 1 => ("CreditGame", "values", "LCreditGame$Values;", true)
  | 2 => ("CreditGame", "credits", "LCreditGame$Credits;", true)
  | 3 => ("CreditGame", "walked", "LCreditGame$Path;", true)
  | _ => ("CreditGame", "chosen", "[I", true)
def tyX4 : Nat → FieldType := fun k => match k with
  | 0 => .object "CreditGame$Graph"
  | 1 => .object "CreditGame$Values"
  | 2 => .object "CreditGame$Credits"
  | 3 => .object "CreditGame$Path"
  | _ => .array .int
abbrev wsX40 : List Cond := u_ws RX4 TX4 5
theorem nmX4 : ∀ a, a < 5 → ∀ b, b < 5 → a ≠ b → (TX4 a).2.1 ≠ (TX4 b).2.1 := by decide +kernel
theorem tyX4_ok : ∀ k, k < 5 → parseFieldDescriptor (TX4 k).2.2.1 = some (tyX4 k) := by decide +kernel
abbrev cX4_init : ByteArray := prog_1_method_1_code
def yX4_init : MethodName := ⟨RX4, "<init>", "()V"⟩
abbrev cX4_vertex : ByteArray := prog_1_method_2_code
def yX4_vertex : MethodName := ⟨RX4, "vertex", "(I)I"⟩
abbrev cX4_edge : ByteArray := prog_1_method_3_code
def yX4_edge : MethodName := ⟨RX4, "edge", "(III)I"⟩
abbrev cX4_fix : ByteArray := prog_1_method_4_code
def yX4_fix : MethodName := ⟨RX4, "fix", "(II)V"⟩
abbrev cX4_fixed : ByteArray := prog_1_method_5_code
def yX4_fixed : MethodName := ⟨RX4, "fixed", "(I)I"⟩
abbrev cX4_credit : ByteArray := prog_1_method_6_code
def yX4_credit : MethodName := ⟨RX4, "credit", "(I)I"⟩
abbrev cX4_reaches : ByteArray := prog_1_method_7_code
def yX4_reaches : MethodName := ⟨RX4, "reaches", "(III)Z"⟩
abbrev cX4_value : ByteArray := prog_1_method_8_code
def yX4_value : MethodName := ⟨RX4, "value", "(IZ)I"⟩
abbrev cX4_best : ByteArray := prog_1_method_9_code
def yX4_best : MethodName := ⟨RX4, "best", "(I)I"⟩
abbrev cX4_settle : ByteArray := prog_1_method_10_code
def yX4_settle : MethodName := ⟨RX4, "settle", "(I)I"⟩
abbrev cX4_walk : ByteArray := prog_1_method_11_code
def yX4_walk : MethodName := ⟨RX4, "walk", "(II)I"⟩
abbrev cX4_checkPlayer : ByteArray := prog_1_method_12_code
def yX4_checkPlayer : MethodName := ⟨RX4, "checkPlayer", "(I)V"⟩
abbrev cX4_checkVertex : ByteArray := prog_1_method_13_code
def yX4_checkVertex : MethodName := ⟨RX4, "checkVertex", "(I)V"⟩
abbrev cX4_checkComplete : ByteArray := prog_1_method_14_code
def yX4_checkComplete : MethodName := ⟨RX4, "checkComplete", "()V"⟩
abbrev cX4_bestEdge : ByteArray := prog_1_method_15_code
def yX4_bestEdge : MethodName := ⟨RX4, "bestEdge", "(I)I"⟩
abbrev cX4_chooseFor : ByteArray := prog_1_method_16_code
def yX4_chooseFor : MethodName := ⟨RX4, "chooseFor", "(I)V"⟩
abbrev cX4_fixChosen : ByteArray := prog_1_method_17_code
def yX4_fixChosen : MethodName := ⟨RX4, "fixChosen", "()I"⟩
abbrev cX4_tellWalk : ByteArray := prog_1_method_18_code
def yX4_tellWalk : MethodName := ⟨RX4, "tellWalk", "(II)I"⟩
def RX5 : String := "CreditGameModel"
def TX5 : u_T := fun k => match k with
  | 0 => ("CreditGameModel", "thrown", "I", false)
  | 1 => ("CreditGameModel", "vertices", "I", false)
  | 2 => ("CreditGameModel", "player", "[I", true)
  | 3 => ("CreditGameModel", "fixedTo", "[I", true)
  | 4 => ("CreditGameModel", "edges", "I", false)
  | 5 => ("CreditGameModel", "from", "[I", true)
  | 6 => ("CreditGameModel", "to", "[I", true)
  | 7 => ("CreditGameModel", "weight", "[I", true)
  | 8 => ("CreditGameModel", "known", "Z", false)
  | 9 => ("CreditGameModel", "above", "[I", true)
  | 10 => ("CreditGameModel", "below", "[I", true)
  | 11 => ("CreditGameModel", "now", "[J", true)
  | 12 => ("CreditGameModel", "then", "[J", true)
  | 13 => ("CreditGameModel", "needs", "[I", true)
  | 14 => ("CreditGameModel", "more", "[I", true)
  | _ => ("CreditGameModel", "chosen", "[I", true)
def tyX5 : Nat → FieldType := fun k => match k with
  | 0 => .int
  | 1 => .int
  | 2 => .array .int
  | 3 => .array .int
  | 4 => .int
  | 5 => .array .int
  | 6 => .array .int
  | 7 => .array .int
  | 8 => .boolean
  | 9 => .array .int
  | 10 => .array .int
  | 11 => .array .long
  | 12 => .array .long
  | 13 => .array .int
  | 14 => .array .int
  | _ => .array .int
abbrev wsX50 : List Cond := u_ws RX5 TX5 16
theorem nmX5 : ∀ a, a < 16 → ∀ b, b < 16 → a ≠ b → (TX5 a).2.1 ≠ (TX5 b).2.1 := by decide +kernel
theorem tyX5_ok : ∀ k, k < 16 → parseFieldDescriptor (TX5 k).2.2.1 = some (tyX5 k) := by decide +kernel
abbrev cX5_init : ByteArray := prog_7_method_1_code
def yX5_init : MethodName := ⟨RX5, "<init>", "()V"⟩
abbrev cX5_thrown : ByteArray := prog_7_method_2_code
def yX5_thrown : MethodName := ⟨RX5, "thrown", "()I"⟩
abbrev cX5_isVertex : ByteArray := prog_7_method_3_code
def yX5_isVertex : MethodName := ⟨RX5, "isVertex", "(I)Z"⟩
abbrev cX5_leads : ByteArray := prog_7_method_4_code
def yX5_leads : MethodName := ⟨RX5, "leads", "(II)Z"⟩
abbrev cX5_isComplete : ByteArray := prog_7_method_5_code
def yX5_isComplete : MethodName := ⟨RX5, "isComplete", "()Z"⟩
abbrev cX5_vertex : ByteArray := prog_7_method_6_code
def yX5_vertex : MethodName := ⟨RX5, "vertex", "(I)I"⟩
abbrev cX5_edge : ByteArray := prog_7_method_7_code
def yX5_edge : MethodName := ⟨RX5, "edge", "(III)I"⟩
abbrev cX5_fix : ByteArray := prog_7_method_8_code
def yX5_fix : MethodName := ⟨RX5, "fix", "(II)V"⟩
abbrev cX5_fixed : ByteArray := prog_7_method_9_code
def yX5_fixed : MethodName := ⟨RX5, "fixed", "(I)I"⟩
abbrev cX5_refuses : ByteArray := prog_7_method_10_code
def yX5_refuses : MethodName := ⟨RX5, "refuses", "(I)Z"⟩
abbrev cX5_findNeeds : ByteArray := prog_7_method_11_code
def yX5_findNeeds : MethodName := ⟨RX5, "findNeeds", "(III)V"⟩
abbrev cX5_need : ByteArray := prog_7_method_12_code
def yX5_need : MethodName := ⟨RX5, "need", "(IIII)I"⟩
abbrev cX5_credit : ByteArray := prog_7_method_13_code
def yX5_credit : MethodName := ⟨RX5, "credit", "(I)I"⟩
abbrev cX5_common : ByteArray := prog_7_method_14_code
def yX5_common : MethodName := ⟨RX5, "common", "(II)I"⟩
abbrev cX5_findValues : ByteArray := prog_7_method_15_code
def yX5_findValues : MethodName := ⟨RX5, "findValues", "()V"⟩
abbrev cX5_nearest : ByteArray := prog_7_method_16_code
def yX5_nearest : MethodName := ⟨RX5, "nearest", "(IJI)V"⟩
abbrev cX5_reaches : ByteArray := prog_7_method_17_code
def yX5_reaches : MethodName := ⟨RX5, "reaches", "(III)Z"⟩
abbrev cX5_value : ByteArray := prog_7_method_18_code
def yX5_value : MethodName := ⟨RX5, "value", "(IZ)I"⟩
abbrev cX5_bestOf : ByteArray := prog_7_method_19_code
def yX5_bestOf : MethodName := ⟨RX5, "bestOf", "(I)I"⟩
abbrev cX5_best : ByteArray := prog_7_method_20_code
def yX5_best : MethodName := ⟨RX5, "best", "(I)I"⟩
abbrev cX5_settle : ByteArray := prog_7_method_21_code
def yX5_settle : MethodName := ⟨RX5, "settle", "(I)I"⟩
abbrev cX5_walk : ByteArray := prog_7_method_22_code
def yX5_walk : MethodName := ⟨RX5, "walk", "(II)I"⟩
def RJ6 : String := "java/lang/Integer"
def TJ6 : u_T := fun k => match k with
  | _ => ("", "", "", false)
def tyJ6 : Nat → FieldType := fun k => match k with
  | _ => .int
abbrev wsJ60 : List Cond := u_ws RJ6 TJ6 0
theorem nmJ6 : ∀ a, a < 0 → ∀ b, b < 0 → a ≠ b → (TJ6 a).2.1 ≠ (TJ6 b).2.1 := by decide +kernel
theorem tyJ6_ok : ∀ k, k < 0 → parseFieldDescriptor (TJ6 k).2.2.1 = some (tyJ6 k) := by decide +kernel
abbrev cJ6_compare_7cf53 : ByteArray := prog_11_method_40_code
def yJ6_compare_7cf53 : MethodName := ⟨RJ6, "compare", "(II)I"⟩
def RJ9 : String := "java/lang/Math"
def TJ9 : u_T := fun k => match k with
  | _ => ("", "", "", false)
def tyJ9 : Nat → FieldType := fun k => match k with
  | _ => .int
abbrev wsJ90 : List Cond := u_ws RJ9 TJ9 0
theorem nmJ9 : ∀ a, a < 0 → ∀ b, b < 0 → a ≠ b → (TJ9 a).2.1 ≠ (TJ9 b).2.1 := by decide +kernel
theorem tyJ9_ok : ∀ k, k < 0 → parseFieldDescriptor (TJ9 k).2.2.1 = some (tyJ9 k) := by decide +kernel
abbrev cJ9_max_7cf53 : ByteArray := prog_12_method_65_code
def yJ9_max_7cf53 : MethodName := ⟨RJ9, "max", "(II)I"⟩
abbrev cJ9_min_7cf53 : ByteArray := prog_12_method_69_code
def yJ9_min_7cf53 : MethodName := ⟨RJ9, "min", "(II)I"⟩
def RJ0 : String := "java/lang/String"
def TJ0 : u_T := fun k => match k with
  | _ => ("", "", "", false)
def tyJ0 : Nat → FieldType := fun k => match k with
  | _ => .int
abbrev wsJ00 : List Cond := u_ws RJ0 TJ0 0
theorem nmJ0 : ∀ a, a < 0 → ∀ b, b < 0 → a ≠ b → (TJ0 a).2.1 ≠ (TJ0 b).2.1 := by decide +kernel
theorem tyJ0_ok : ∀ k, k < 0 → parseFieldDescriptor (TJ0 k).2.2.1 = some (tyJ0 k) := by decide +kernel
def RJ7 : String := "java/util/Arrays"
def TJ7 : u_T := fun k => match k with
  | _ => ("", "", "", false)
def tyJ7 : Nat → FieldType := fun k => match k with
  | _ => .int
abbrev wsJ70 : List Cond := u_ws RJ7 TJ7 0
theorem nmJ7 : ∀ a, a < 0 → ∀ b, b < 0 → a ≠ b → (TJ7 a).2.1 ≠ (TJ7 b).2.1 := by decide +kernel
theorem tyJ7_ok : ∀ k, k < 0 → parseFieldDescriptor (TJ7 k).2.2.1 = some (tyJ7 k) := by decide +kernel
abbrev cJ7_fill_53178 : ByteArray := prog_16_method_103_code
def yJ7_fill_53178 : MethodName := ⟨RJ7, "fill", "([II)V"⟩
def RL : String := "CreditGameLaw"
abbrev cL_vertex : ByteArray := method_3_code
def yL_vertex : MethodName := ⟨RL, "vertex", "(LCreditGame;I[J)I"⟩
abbrev cL_edge : ByteArray := method_4_code
def yL_edge : MethodName := ⟨RL, "edge", "(LCreditGame;III[J)I"⟩
abbrev cL_fix : ByteArray := method_5_code
def yL_fix : MethodName := ⟨RL, "fix", "(LCreditGame;II)I"⟩
abbrev cL_fixed : ByteArray := method_6_code
def yL_fixed : MethodName := ⟨RL, "fixed", "(LCreditGame;I[J)I"⟩
abbrev cL_credit : ByteArray := method_7_code
def yL_credit : MethodName := ⟨RL, "credit", "(LCreditGame;I[J)I"⟩
abbrev cL_reaches : ByteArray := method_8_code
def yL_reaches : MethodName := ⟨RL, "reaches", "(LCreditGame;III[J)I"⟩
abbrev cL_value : ByteArray := method_9_code
def yL_value : MethodName := ⟨RL, "value", "(LCreditGame;IZ[J)I"⟩
abbrev cL_best : ByteArray := method_10_code
def yL_best : MethodName := ⟨RL, "best", "(LCreditGame;I[J)I"⟩
abbrev cL_settle : ByteArray := method_11_code
def yL_settle : MethodName := ⟨RL, "settle", "(LCreditGame;I[J)I"⟩
abbrev cL_walk : ByteArray := method_12_code
def yL_walk : MethodName := ⟨RL, "walk", "(LCreditGame;II[J)I"⟩
abbrev cL_law : ByteArray := code
def yL_law : MethodName := ⟨RL, "law", "([I)Z"⟩
def wsX0_init : List Cond := .code yX0_init cX0_init 3 none :: ([.methodLink RX0 3 objectInit, .instanceMethod objectInit, .code objectInit ⟨#[0xb1]⟩ 1 none, .arrayClass .int, .fieldLink RX0 9 "CreditGame$Credits" "need" "[I", .fieldLink RX0 15 "CreditGame$Credits" "gain" "[I", .fieldLink RX0 18 "CreditGame$Credits" "graph" "LCreditGame$Graph;", .fieldLink RX0 22 "CreditGame$Credits" "values" "LCreditGame$Values;"] ++ wsX00)
def wsX1_weightOf : List Cond := .code yX1_weightOf cX1_weightOf 2 (some .int) :: ([.fieldLink RX1 32 "CreditGame$Graph" "weight" "[I"] ++ wsX10)
def wsX1_hasVertex : List Cond := .code yX1_hasVertex cX1_hasVertex 2 (some .boolean) :: ([.fieldLink RX1 35 "CreditGame$Graph" "vertexCount" "I"] ++ wsX10)
def wsX3_partsOf : List Cond := .code yX3_partsOf cX3_partsOf 2 (some .int) :: ([.fieldLink RX3 26 "CreditGame$Values" "graph" "LCreditGame$Graph;", .fieldLink RX3 22 "CreditGame$Values" "parts" "[I", .instanceMethod yX1_hasVertex, .initialized RX1, .selects RX1 yX1_hasVertex yX1_hasVertex, .code yX1_hasVertex cX1_hasVertex 2 (some .boolean), .fieldLink RX1 35 "CreditGame$Graph" "vertexCount" "I"] ++ wsX30 ++ wsX10)
def wsJ6_compare_7cf53 : List Cond := .code yJ6_compare_7cf53 cJ6_compare_7cf53 2 (some .int) :: ([])
def wsX3_order : List Cond := .code yX3_order cX3_order 4 (some .int) :: ([.methodLink RX3 49 yX3_partsOf, .instanceMethod yX3_partsOf, .selects RX3 yX3_partsOf yX3_partsOf, .initialized RX3, .code yX3_partsOf cX3_partsOf 2 (some .int), .fieldLink RX3 26 "CreditGame$Values" "graph" "LCreditGame$Graph;", .fieldLink RX3 22 "CreditGame$Values" "parts" "[I", .instanceMethod yX1_hasVertex, .initialized RX1, .selects RX1 yX1_hasVertex yX1_hasVertex, .code yX1_hasVertex cX1_hasVertex 2 (some .boolean), .fieldLink RX1 35 "CreditGame$Graph" "vertexCount" "I", .methodLink RX3 56 yJ6_compare_7cf53, .static yJ6_compare_7cf53, .initialized RJ6, .code yJ6_compare_7cf53 cJ6_compare_7cf53 2 (some .int)] ++ wsX30 ++ wsX10)
def wsX0_isGoodFor : List Cond := .code yX0_isGoodFor cX0_isGoodFor 3 (some .boolean) :: ([])
def wsX1_ownerOf : List Cond := .code yX1_ownerOf cX1_ownerOf 2 (some .int) :: ([.fieldLink RX1 9 "CreditGame$Graph" "owner" "[I", .methodLink RX1 42 yX1_hasVertex, .instanceMethod yX1_hasVertex, .selects RX1 yX1_hasVertex yX1_hasVertex, .initialized RX1, .code yX1_hasVertex cX1_hasVertex 2 (some .boolean), .fieldLink RX1 35 "CreditGame$Graph" "vertexCount" "I"] ++ wsX10)
def wsX1_waysFrom : List Cond := .code yX1_waysFrom cX1_waysFrom 2 (some .int) :: ([.fieldLink RX1 15 "CreditGame$Graph" "fixedTo" "[I", .fieldLink RX1 18 "CreditGame$Graph" "outCount" "[I", .methodLink RX1 42 yX1_hasVertex, .instanceMethod yX1_hasVertex, .selects RX1 yX1_hasVertex yX1_hasVertex, .initialized RX1, .code yX1_hasVertex cX1_hasVertex 2 (some .boolean), .fieldLink RX1 35 "CreditGame$Graph" "vertexCount" "I"] ++ wsX10)
def wsX1_wayFrom : List Cond := .code yX1_wayFrom cX1_wayFrom 3 (some .int) :: ([.fieldLink RX1 18 "CreditGame$Graph" "outCount" "[I", .fieldLink RX1 15 "CreditGame$Graph" "fixedTo" "[I", .fieldLink RX1 23 "CreditGame$Graph" "out" "[[I", .methodLink RX1 42 yX1_hasVertex, .instanceMethod yX1_hasVertex, .selects RX1 yX1_hasVertex yX1_hasVertex, .initialized RX1, .code yX1_hasVertex cX1_hasVertex 2 (some .boolean), .fieldLink RX1 35 "CreditGame$Graph" "vertexCount" "I"] ++ wsX10)
def wsX1_targetOf : List Cond := .code yX1_targetOf cX1_targetOf 2 (some .int) :: ([.fieldLink RX1 29 "CreditGame$Graph" "target" "[I"] ++ wsX10)
def wsX0_needOf : List Cond := .code yX0_needOf cX0_needOf 2 (some .int) :: ([.fieldLink RX0 9 "CreditGame$Credits" "need" "[I"] ++ wsX00)
def wsX0_gainOf : List Cond := .code yX0_gainOf cX0_gainOf 2 (some .int) :: ([.fieldLink RX0 15 "CreditGame$Credits" "gain" "[I"] ++ wsX00)
def wsX0_needBefore : List Cond := .code yX0_needBefore cX0_needBefore 3 (some .int) :: ([.fieldLink RX0 18 "CreditGame$Credits" "graph" "LCreditGame$Graph;", .methodLink RX0 68 Lib.Math.max.name, .static Lib.Math.max.name, .initialized "java/lang/Math", .code Lib.Math.max.name Lib.Math.max.code 2 (some .int), .instanceMethod yX1_targetOf, .initialized RX1, .selects RX1 yX1_targetOf yX1_targetOf, .code yX1_targetOf cX1_targetOf 2 (some .int), .fieldLink RX1 29 "CreditGame$Graph" "target" "[I", .methodLink RX0 62 yX0_needOf, .instanceMethod yX0_needOf, .selects RX0 yX0_needOf yX0_needOf, .initialized RX0, .code yX0_needOf cX0_needOf 2 (some .int), .fieldLink RX0 9 "CreditGame$Credits" "need" "[I", .methodLink RX0 65 yX0_gainOf, .instanceMethod yX0_gainOf, .selects RX0 yX0_gainOf yX0_gainOf, .code yX0_gainOf cX0_gainOf 2 (some .int), .fieldLink RX0 15 "CreditGame$Credits" "gain" "[I"] ++ wsX00 ++ wsX10)
def wsX0_enoughAt_r1 : List Cond := [Cond.fieldLink RX0 18 "CreditGame$Credits" "graph" "LCreditGame$Graph;", Cond.instanceMethod yX1_waysFrom, Cond.initialized RX1, Cond.selects RX1 yX1_waysFrom yX1_waysFrom, Cond.code yX1_waysFrom cX1_waysFrom 2 (some .int), Cond.fieldLink RX1 15 "CreditGame$Graph" "fixedTo" "[I", Cond.fieldLink RX1 18 "CreditGame$Graph" "outCount" "[I", Cond.methodLink RX1 42 yX1_hasVertex, Cond.instanceMethod yX1_hasVertex, Cond.selects RX1 yX1_hasVertex yX1_hasVertex, Cond.code yX1_hasVertex cX1_hasVertex 2 (some .boolean), Cond.fieldLink RX1 35 "CreditGame$Graph" "vertexCount" "I", Cond.instanceMethod yX1_wayFrom, Cond.selects RX1 yX1_wayFrom yX1_wayFrom, Cond.code yX1_wayFrom cX1_wayFrom 3 (some .int), Cond.fieldLink RX1 23 "CreditGame$Graph" "out" "[[I", Cond.methodLink RX0 56 yX0_needBefore, Cond.instanceMethod yX0_needBefore, Cond.selects RX0 yX0_needBefore yX0_needBefore, Cond.initialized RX0, Cond.code yX0_needBefore cX0_needBefore 3 (some .int), Cond.methodLink RX0 68 Lib.Math.max.name, Cond.static Lib.Math.max.name, Cond.initialized "java/lang/Math"]
def wsX0_enoughAt_r2 : List Cond := [Cond.code Lib.Math.max.name Lib.Math.max.code 2 (some .int), Cond.instanceMethod yX1_targetOf, Cond.selects RX1 yX1_targetOf yX1_targetOf, Cond.code yX1_targetOf cX1_targetOf 2 (some .int), Cond.fieldLink RX1 29 "CreditGame$Graph" "target" "[I", Cond.methodLink RX0 62 yX0_needOf, Cond.instanceMethod yX0_needOf, Cond.selects RX0 yX0_needOf yX0_needOf, Cond.code yX0_needOf cX0_needOf 2 (some .int), Cond.fieldLink RX0 9 "CreditGame$Credits" "need" "[I", Cond.methodLink RX0 65 yX0_gainOf, Cond.instanceMethod yX0_gainOf, Cond.selects RX0 yX0_gainOf yX0_gainOf, Cond.code yX0_gainOf cX0_gainOf 2 (some .int), Cond.fieldLink RX0 15 "CreditGame$Credits" "gain" "[I"]
def wsX0_enoughAt : List Cond := .code yX0_enoughAt cX0_enoughAt 8 (some .int) :: ((wsX0_enoughAt_r1 ++ wsX0_enoughAt_r2) ++ wsX00 ++ wsX10)
def wsX0_solve_r1 : List Cond := [Cond.fieldLink RX0 18 "CreditGame$Credits" "graph" "LCreditGame$Graph;", Cond.fieldLink RX0 15 "CreditGame$Credits" "gain" "[I", Cond.fieldLink RX0 9 "CreditGame$Credits" "need" "[I", Cond.fieldLink RX0 22 "CreditGame$Credits" "values" "LCreditGame$Values;", Cond.instanceMethod yX1_weightOf, Cond.initialized RX1, Cond.selects RX1 yX1_weightOf yX1_weightOf, Cond.code yX1_weightOf cX1_weightOf 2 (some .int), Cond.fieldLink RX1 32 "CreditGame$Graph" "weight" "[I", Cond.instanceMethod yX3_order, Cond.initialized RX3, Cond.selects RX3 yX3_order yX3_order, Cond.code yX3_order cX3_order 4 (some .int), Cond.methodLink RX3 49 yX3_partsOf, Cond.instanceMethod yX3_partsOf, Cond.selects RX3 yX3_partsOf yX3_partsOf, Cond.code yX3_partsOf cX3_partsOf 2 (some .int), Cond.fieldLink RX3 26 "CreditGame$Values" "graph" "LCreditGame$Graph;", Cond.fieldLink RX3 22 "CreditGame$Values" "parts" "[I", Cond.instanceMethod yX1_hasVertex, Cond.selects RX1 yX1_hasVertex yX1_hasVertex, Cond.code yX1_hasVertex cX1_hasVertex 2 (some .boolean), Cond.fieldLink RX1 35 "CreditGame$Graph" "vertexCount" "I", Cond.methodLink RX3 56 yJ6_compare_7cf53]
def wsX0_solve_r2 : List Cond := [Cond.static yJ6_compare_7cf53, Cond.initialized RJ6, Cond.code yJ6_compare_7cf53 cJ6_compare_7cf53 2 (some .int), Cond.methodLink RX0 38 yX0_isGoodFor, Cond.instanceMethod yX0_isGoodFor, Cond.selects RX0 yX0_isGoodFor yX0_isGoodFor, Cond.initialized RX0, Cond.code yX0_isGoodFor cX0_isGoodFor 3 (some .boolean), Cond.instanceMethod yX1_ownerOf, Cond.selects RX1 yX1_ownerOf yX1_ownerOf, Cond.code yX1_ownerOf cX1_ownerOf 2 (some .int), Cond.fieldLink RX1 9 "CreditGame$Graph" "owner" "[I", Cond.methodLink RX1 42 yX1_hasVertex, Cond.methodLink RX0 45 yX0_enoughAt, Cond.instanceMethod yX0_enoughAt, Cond.selects RX0 yX0_enoughAt yX0_enoughAt, Cond.code yX0_enoughAt cX0_enoughAt 8 (some .int), Cond.instanceMethod yX1_waysFrom, Cond.selects RX1 yX1_waysFrom yX1_waysFrom, Cond.code yX1_waysFrom cX1_waysFrom 2 (some .int), Cond.fieldLink RX1 15 "CreditGame$Graph" "fixedTo" "[I", Cond.fieldLink RX1 18 "CreditGame$Graph" "outCount" "[I", Cond.instanceMethod yX1_wayFrom, Cond.selects RX1 yX1_wayFrom yX1_wayFrom]
def wsX0_solve_r3 : List Cond := [Cond.code yX1_wayFrom cX1_wayFrom 3 (some .int), Cond.fieldLink RX1 23 "CreditGame$Graph" "out" "[[I", Cond.methodLink RX0 56 yX0_needBefore, Cond.instanceMethod yX0_needBefore, Cond.selects RX0 yX0_needBefore yX0_needBefore, Cond.code yX0_needBefore cX0_needBefore 3 (some .int), Cond.methodLink RX0 68 Lib.Math.max.name, Cond.static Lib.Math.max.name, Cond.initialized "java/lang/Math", Cond.code Lib.Math.max.name Lib.Math.max.code 2 (some .int), Cond.instanceMethod yX1_targetOf, Cond.selects RX1 yX1_targetOf yX1_targetOf, Cond.code yX1_targetOf cX1_targetOf 2 (some .int), Cond.fieldLink RX1 29 "CreditGame$Graph" "target" "[I", Cond.methodLink RX0 62 yX0_needOf, Cond.instanceMethod yX0_needOf, Cond.selects RX0 yX0_needOf yX0_needOf, Cond.code yX0_needOf cX0_needOf 2 (some .int), Cond.methodLink RX0 65 yX0_gainOf, Cond.instanceMethod yX0_gainOf, Cond.selects RX0 yX0_gainOf yX0_gainOf, Cond.code yX0_gainOf cX0_gainOf 2 (some .int)]
def wsX0_solve : List Cond := .code yX0_solve cX0_solve 8 none :: ((wsX0_solve_r1 ++ (wsX0_solve_r2 ++ wsX0_solve_r3)) ++ wsX00 ++ wsX10 ++ wsX30)
def wsX0_allows : List Cond := .code yX0_allows cX0_allows 4 (some .boolean) :: ([.fieldLink RX0 18 "CreditGame$Credits" "graph" "LCreditGame$Graph;", .instanceMethod yX1_targetOf, .initialized RX1, .selects RX1 yX1_targetOf yX1_targetOf, .code yX1_targetOf cX1_targetOf 2 (some .int), .fieldLink RX1 29 "CreditGame$Graph" "target" "[I", .methodLink RX0 62 yX0_needOf, .instanceMethod yX0_needOf, .selects RX0 yX0_needOf yX0_needOf, .initialized RX0, .code yX0_needOf cX0_needOf 2 (some .int), .fieldLink RX0 9 "CreditGame$Credits" "need" "[I", .methodLink RX0 65 yX0_gainOf, .instanceMethod yX0_gainOf, .selects RX0 yX0_gainOf yX0_gainOf, .code yX0_gainOf cX0_gainOf 2 (some .int), .fieldLink RX0 15 "CreditGame$Credits" "gain" "[I"] ++ wsX00 ++ wsX10)
def wsX1_init : List Cond := .code yX1_init cX1_init 1 none :: ([.methodLink RX1 3 objectInit, .instanceMethod objectInit, .code objectInit ⟨#[0xb1]⟩ 1 none, .arrayClass .int, .fieldLink RX1 9 "CreditGame$Graph" "owner" "[I", .fieldLink RX1 15 "CreditGame$Graph" "fixedTo" "[I", .fieldLink RX1 18 "CreditGame$Graph" "outCount" "[I", .classLink RX1 21 "[[I", .fieldLink RX1 23 "CreditGame$Graph" "out" "[[I", .fieldLink RX1 26 "CreditGame$Graph" "source" "[I", .fieldLink RX1 29 "CreditGame$Graph" "target" "[I", .fieldLink RX1 32 "CreditGame$Graph" "weight" "[I", .fieldLink RX1 35 "CreditGame$Graph" "vertexCount" "I", .fieldLink RX1 39 "CreditGame$Graph" "edgeCount" "I"] ++ wsX10)
def wsX1_addVertex : List Cond := .code yX1_addVertex cX1_addVertex 3 (some .int) :: ([.fieldLink RX1 35 "CreditGame$Graph" "vertexCount" "I", .fieldLink RX1 9 "CreditGame$Graph" "owner" "[I", .fieldLink RX1 15 "CreditGame$Graph" "fixedTo" "[I"] ++ wsX10)
def wsX1_addEdge : List Cond := .code yX1_addEdge cX1_addEdge 6 (some .int) :: ([.fieldLink RX1 39 "CreditGame$Graph" "edgeCount" "I", .fieldLink RX1 18 "CreditGame$Graph" "outCount" "[I", .fieldLink RX1 26 "CreditGame$Graph" "source" "[I", .fieldLink RX1 29 "CreditGame$Graph" "target" "[I", .fieldLink RX1 32 "CreditGame$Graph" "weight" "[I", .fieldLink RX1 23 "CreditGame$Graph" "out" "[[I", .methodLink RX1 42 yX1_hasVertex, .instanceMethod yX1_hasVertex, .selects RX1 yX1_hasVertex yX1_hasVertex, .initialized RX1, .code yX1_hasVertex cX1_hasVertex 2 (some .boolean), .fieldLink RX1 35 "CreditGame$Graph" "vertexCount" "I"] ++ wsX10)
def wsX1_isFrom : List Cond := .code yX1_isFrom cX1_isFrom 3 (some .boolean) :: ([.fieldLink RX1 39 "CreditGame$Graph" "edgeCount" "I", .fieldLink RX1 26 "CreditGame$Graph" "source" "[I"] ++ wsX10)
def wsX1_fixedOf : List Cond := .code yX1_fixedOf cX1_fixedOf 2 (some .int) :: ([.fieldLink RX1 15 "CreditGame$Graph" "fixedTo" "[I", .methodLink RX1 42 yX1_hasVertex, .instanceMethod yX1_hasVertex, .selects RX1 yX1_hasVertex yX1_hasVertex, .initialized RX1, .code yX1_hasVertex cX1_hasVertex 2 (some .boolean), .fieldLink RX1 35 "CreditGame$Graph" "vertexCount" "I"] ++ wsX10)
def wsX1_setFixed : List Cond := .code yX1_setFixed cX1_setFixed 3 none :: ([.fieldLink RX1 15 "CreditGame$Graph" "fixedTo" "[I", .methodLink RX1 42 yX1_hasVertex, .instanceMethod yX1_hasVertex, .selects RX1 yX1_hasVertex yX1_hasVertex, .initialized RX1, .code yX1_hasVertex cX1_hasVertex 2 (some .boolean), .fieldLink RX1 35 "CreditGame$Graph" "vertexCount" "I"] ++ wsX10)
def wsX1_isComplete : List Cond := .code yX1_isComplete cX1_isComplete 2 (some .boolean) :: ([.fieldLink RX1 35 "CreditGame$Graph" "vertexCount" "I", .methodLink RX1 46 yX1_waysFrom, .instanceMethod yX1_waysFrom, .selects RX1 yX1_waysFrom yX1_waysFrom, .initialized RX1, .code yX1_waysFrom cX1_waysFrom 2 (some .int), .fieldLink RX1 15 "CreditGame$Graph" "fixedTo" "[I", .fieldLink RX1 18 "CreditGame$Graph" "outCount" "[I", .methodLink RX1 42 yX1_hasVertex, .instanceMethod yX1_hasVertex, .selects RX1 yX1_hasVertex yX1_hasVertex, .code yX1_hasVertex cX1_hasVertex 2 (some .boolean)] ++ wsX10)
def wsX2_init : List Cond := .code yX2_init cX2_init 1 none :: ([.methodLink RX2 3 objectInit, .instanceMethod objectInit, .code objectInit ⟨#[0xb1]⟩ 1 none, .arrayClass .int, .fieldLink RX2 9 "CreditGame$Path" "steps" "[I", .fieldLink RX2 15 "CreditGame$Path" "sums" "[I"] ++ wsX20)
def wsJ7_fill_53178 : List Cond := .code yJ7_fill_53178 cJ7_fill_53178 4 none :: ([])
def wsX2_clear : List Cond := .code yX2_clear cX2_clear 1 none :: ([.fieldLink RX2 9 "CreditGame$Path" "steps" "[I", .methodLink RX2 18 yJ7_fill_53178, .static yJ7_fill_53178, .initialized RJ7, .code yJ7_fill_53178 cJ7_fill_53178 4 none] ++ wsX20)
def wsX2_isPlace : List Cond := .code yX2_isPlace cX2_isPlace 2 (some .boolean) :: ([])
def wsX2_has : List Cond := .code yX2_has cX2_has 2 (some .boolean) :: ([.fieldLink RX2 9 "CreditGame$Path" "steps" "[I", .methodLink RX2 24 yX2_isPlace, .instanceMethod yX2_isPlace, .selects RX2 yX2_isPlace yX2_isPlace, .initialized RX2, .code yX2_isPlace cX2_isPlace 2 (some .boolean)] ++ wsX20)
def wsX2_enter : List Cond := .code yX2_enter cX2_enter 4 none :: ([.fieldLink RX2 9 "CreditGame$Path" "steps" "[I", .fieldLink RX2 15 "CreditGame$Path" "sums" "[I", .methodLink RX2 24 yX2_isPlace, .instanceMethod yX2_isPlace, .selects RX2 yX2_isPlace yX2_isPlace, .initialized RX2, .code yX2_isPlace cX2_isPlace 2 (some .boolean)] ++ wsX20)
def wsX2_leave : List Cond := .code yX2_leave cX2_leave 2 none :: ([.fieldLink RX2 9 "CreditGame$Path" "steps" "[I", .methodLink RX2 24 yX2_isPlace, .instanceMethod yX2_isPlace, .selects RX2 yX2_isPlace yX2_isPlace, .initialized RX2, .code yX2_isPlace cX2_isPlace 2 (some .boolean)] ++ wsX20)
def wsX2_stepsTo : List Cond := .code yX2_stepsTo cX2_stepsTo 2 (some .int) :: ([.fieldLink RX2 9 "CreditGame$Path" "steps" "[I", .methodLink RX2 24 yX2_isPlace, .instanceMethod yX2_isPlace, .selects RX2 yX2_isPlace yX2_isPlace, .initialized RX2, .code yX2_isPlace cX2_isPlace 2 (some .boolean)] ++ wsX20)
def wsX2_sumTo : List Cond := .code yX2_sumTo cX2_sumTo 2 (some .int) :: ([.fieldLink RX2 15 "CreditGame$Path" "sums" "[I", .methodLink RX2 24 yX2_isPlace, .instanceMethod yX2_isPlace, .selects RX2 yX2_isPlace yX2_isPlace, .initialized RX2, .code yX2_isPlace cX2_isPlace 2 (some .boolean)] ++ wsX20)
def wsX3_init : List Cond := .code yX3_init cX3_init 2 none :: ([.methodLink RX3 3 objectInit, .instanceMethod objectInit, .code objectInit ⟨#[0xb1]⟩ 1 none, .classLink RX3 9 RX2, .instantiable RX2 2, .initialized RX2, .fieldLink RX3 12 "CreditGame$Values" "path" "LCreditGame$Path;", .arrayClass .boolean, .fieldLink RX3 18 "CreditGame$Values" "known" "[Z", .arrayClass .int, .fieldLink RX3 22 "CreditGame$Values" "parts" "[I", .fieldLink RX3 26 "CreditGame$Values" "graph" "LCreditGame$Graph;", .instanceMethod yX2_init, .code yX2_init cX2_init 1 none, .methodLink RX2 3 objectInit, .fieldLink RX2 9 "CreditGame$Path" "steps" "[I", .fieldLink RX2 15 "CreditGame$Path" "sums" "[I"] ++ wsX20 ++ wsX30)
def wsX3_forget : List Cond := .code yX3_forget cX3_forget 2 none :: ([.fieldLink RX3 18 "CreditGame$Values" "known" "[Z"] ++ wsX30)
def wsX3_loopParts : List Cond := .code yX3_loopParts cX3_loopParts 2 (some .int) :: ([])
def wsX3_greatestPay_r1 : List Cond := [Cond.constant RX3 43 (-1000000), Cond.fieldLink RX3 26 "CreditGame$Values" "graph" "LCreditGame$Graph;", Cond.methodLink RX3 102 Lib.Math.max.name, Cond.static Lib.Math.max.name, Cond.initialized "java/lang/Math", Cond.code Lib.Math.max.name Lib.Math.max.code 2 (some .int), Cond.instanceMethod yX1_waysFrom, Cond.initialized RX1, Cond.selects RX1 yX1_waysFrom yX1_waysFrom, Cond.code yX1_waysFrom cX1_waysFrom 2 (some .int), Cond.fieldLink RX1 15 "CreditGame$Graph" "fixedTo" "[I", Cond.fieldLink RX1 18 "CreditGame$Graph" "outCount" "[I", Cond.methodLink RX1 42 yX1_hasVertex, Cond.instanceMethod yX1_hasVertex, Cond.selects RX1 yX1_hasVertex yX1_hasVertex, Cond.code yX1_hasVertex cX1_hasVertex 2 (some .boolean), Cond.fieldLink RX1 35 "CreditGame$Graph" "vertexCount" "I", Cond.instanceMethod yX1_wayFrom, Cond.selects RX1 yX1_wayFrom yX1_wayFrom, Cond.code yX1_wayFrom cX1_wayFrom 3 (some .int), Cond.fieldLink RX1 23 "CreditGame$Graph" "out" "[[I", Cond.instanceMethod yX1_targetOf, Cond.selects RX1 yX1_targetOf yX1_targetOf, Cond.code yX1_targetOf cX1_targetOf 2 (some .int)]
def wsX3_greatestPay_r2 : List Cond := [Cond.fieldLink RX1 29 "CreditGame$Graph" "target" "[I", Cond.instanceMethod yX1_weightOf, Cond.selects RX1 yX1_weightOf yX1_weightOf, Cond.code yX1_weightOf cX1_weightOf 2 (some .int), Cond.fieldLink RX1 32 "CreditGame$Graph" "weight" "[I", Cond.methodLink RX3 45 yX3_playAt, Cond.instanceMethod yX3_playAt, Cond.selects RX3 yX3_playAt yX3_playAt, Cond.initialized RX3, Cond.code yX3_leastPay cX3_leastPay 11 (some .int), Cond.constant RX3 44 (1000000), Cond.methodLink RX3 107 Lib.Math.min.name, Cond.static Lib.Math.min.name, Cond.code Lib.Math.min.name Lib.Math.min.code 2 (some .int), Cond.code yX3_playAt cX3_playAt 7 (some .int), Cond.fieldLink RX3 12 "CreditGame$Values" "path" "LCreditGame$Path;", Cond.instanceMethod yX2_has, Cond.initialized RX2, Cond.selects RX2 yX2_has yX2_has, Cond.code yX2_has cX2_has 2 (some .boolean), Cond.fieldLink RX2 9 "CreditGame$Path" "steps" "[I", Cond.methodLink RX2 24 yX2_isPlace, Cond.instanceMethod yX2_isPlace, Cond.selects RX2 yX2_isPlace yX2_isPlace]
def wsX3_greatestPay_r3 : List Cond := [Cond.code yX2_isPlace cX2_isPlace 2 (some .boolean), Cond.instanceMethod yX2_stepsTo, Cond.selects RX2 yX2_stepsTo yX2_stepsTo, Cond.code yX2_stepsTo cX2_stepsTo 2 (some .int), Cond.instanceMethod yX2_sumTo, Cond.selects RX2 yX2_sumTo yX2_sumTo, Cond.code yX2_sumTo cX2_sumTo 2 (some .int), Cond.fieldLink RX2 15 "CreditGame$Path" "sums" "[I", Cond.methodLink RX3 71 yX3_loopParts, Cond.static yX3_loopParts, Cond.code yX3_loopParts cX3_loopParts 2 (some .int), Cond.instanceMethod yX2_enter, Cond.selects RX2 yX2_enter yX2_enter, Cond.code yX2_enter cX2_enter 4 none, Cond.instanceMethod yX1_ownerOf, Cond.selects RX1 yX1_ownerOf yX1_ownerOf, Cond.code yX1_ownerOf cX1_ownerOf 2 (some .int), Cond.fieldLink RX1 9 "CreditGame$Graph" "owner" "[I", Cond.methodLink RX3 81 yX3_greatestPay, Cond.instanceMethod yX3_greatestPay, Cond.selects RX3 yX3_greatestPay yX3_greatestPay, Cond.methodLink RX3 84 yX3_leastPay, Cond.instanceMethod yX3_leastPay, Cond.selects RX3 yX3_leastPay yX3_leastPay]
def wsX3_greatestPay_r4 : List Cond := [Cond.instanceMethod yX2_leave, Cond.selects RX2 yX2_leave yX2_leave, Cond.code yX2_leave cX2_leave 2 none]
def wsX3_greatestPay : List Cond := .code yX3_greatestPay cX3_greatestPay 11 (some .int) :: ((wsX3_greatestPay_r1 ++ (wsX3_greatestPay_r2 ++ (wsX3_greatestPay_r3 ++ wsX3_greatestPay_r4))) ++ wsX30 ++ wsX10 ++ wsX20)
def wsX3_leastPay_r1 : List Cond := [Cond.constant RX3 44 (1000000), Cond.fieldLink RX3 26 "CreditGame$Values" "graph" "LCreditGame$Graph;", Cond.methodLink RX3 107 Lib.Math.min.name, Cond.static Lib.Math.min.name, Cond.initialized "java/lang/Math", Cond.code Lib.Math.min.name Lib.Math.min.code 2 (some .int), Cond.instanceMethod yX1_waysFrom, Cond.initialized RX1, Cond.selects RX1 yX1_waysFrom yX1_waysFrom, Cond.code yX1_waysFrom cX1_waysFrom 2 (some .int), Cond.fieldLink RX1 15 "CreditGame$Graph" "fixedTo" "[I", Cond.fieldLink RX1 18 "CreditGame$Graph" "outCount" "[I", Cond.methodLink RX1 42 yX1_hasVertex, Cond.instanceMethod yX1_hasVertex, Cond.selects RX1 yX1_hasVertex yX1_hasVertex, Cond.code yX1_hasVertex cX1_hasVertex 2 (some .boolean), Cond.fieldLink RX1 35 "CreditGame$Graph" "vertexCount" "I", Cond.instanceMethod yX1_wayFrom, Cond.selects RX1 yX1_wayFrom yX1_wayFrom, Cond.code yX1_wayFrom cX1_wayFrom 3 (some .int), Cond.fieldLink RX1 23 "CreditGame$Graph" "out" "[[I", Cond.instanceMethod yX1_targetOf, Cond.selects RX1 yX1_targetOf yX1_targetOf, Cond.code yX1_targetOf cX1_targetOf 2 (some .int)]
def wsX3_leastPay_r2 : List Cond := [Cond.fieldLink RX1 29 "CreditGame$Graph" "target" "[I", Cond.instanceMethod yX1_weightOf, Cond.selects RX1 yX1_weightOf yX1_weightOf, Cond.code yX1_weightOf cX1_weightOf 2 (some .int), Cond.fieldLink RX1 32 "CreditGame$Graph" "weight" "[I", Cond.methodLink RX3 45 yX3_playAt, Cond.instanceMethod yX3_playAt, Cond.selects RX3 yX3_playAt yX3_playAt, Cond.initialized RX3, Cond.code yX3_greatestPay cX3_greatestPay 11 (some .int), Cond.constant RX3 43 (-1000000), Cond.methodLink RX3 102 Lib.Math.max.name, Cond.static Lib.Math.max.name, Cond.code Lib.Math.max.name Lib.Math.max.code 2 (some .int), Cond.code yX3_playAt cX3_playAt 7 (some .int), Cond.fieldLink RX3 12 "CreditGame$Values" "path" "LCreditGame$Path;", Cond.instanceMethod yX2_has, Cond.initialized RX2, Cond.selects RX2 yX2_has yX2_has, Cond.code yX2_has cX2_has 2 (some .boolean), Cond.fieldLink RX2 9 "CreditGame$Path" "steps" "[I", Cond.methodLink RX2 24 yX2_isPlace, Cond.instanceMethod yX2_isPlace, Cond.selects RX2 yX2_isPlace yX2_isPlace]
def wsX3_leastPay_r3 : List Cond := [Cond.code yX2_isPlace cX2_isPlace 2 (some .boolean), Cond.instanceMethod yX2_stepsTo, Cond.selects RX2 yX2_stepsTo yX2_stepsTo, Cond.code yX2_stepsTo cX2_stepsTo 2 (some .int), Cond.instanceMethod yX2_sumTo, Cond.selects RX2 yX2_sumTo yX2_sumTo, Cond.code yX2_sumTo cX2_sumTo 2 (some .int), Cond.fieldLink RX2 15 "CreditGame$Path" "sums" "[I", Cond.methodLink RX3 71 yX3_loopParts, Cond.static yX3_loopParts, Cond.code yX3_loopParts cX3_loopParts 2 (some .int), Cond.instanceMethod yX2_enter, Cond.selects RX2 yX2_enter yX2_enter, Cond.code yX2_enter cX2_enter 4 none, Cond.instanceMethod yX1_ownerOf, Cond.selects RX1 yX1_ownerOf yX1_ownerOf, Cond.code yX1_ownerOf cX1_ownerOf 2 (some .int), Cond.fieldLink RX1 9 "CreditGame$Graph" "owner" "[I", Cond.methodLink RX3 81 yX3_greatestPay, Cond.instanceMethod yX3_greatestPay, Cond.selects RX3 yX3_greatestPay yX3_greatestPay, Cond.methodLink RX3 84 yX3_leastPay, Cond.instanceMethod yX3_leastPay, Cond.selects RX3 yX3_leastPay yX3_leastPay]
def wsX3_leastPay_r4 : List Cond := [Cond.instanceMethod yX2_leave, Cond.selects RX2 yX2_leave yX2_leave, Cond.code yX2_leave cX2_leave 2 none]
def wsX3_leastPay : List Cond := .code yX3_leastPay cX3_leastPay 11 (some .int) :: ((wsX3_leastPay_r1 ++ (wsX3_leastPay_r2 ++ (wsX3_leastPay_r3 ++ wsX3_leastPay_r4))) ++ wsX30 ++ wsX10 ++ wsX20)
def wsX3_playAt_r1 : List Cond := [Cond.fieldLink RX3 26 "CreditGame$Values" "graph" "LCreditGame$Graph;", Cond.fieldLink RX3 12 "CreditGame$Values" "path" "LCreditGame$Path;", Cond.instanceMethod yX1_hasVertex, Cond.initialized RX1, Cond.selects RX1 yX1_hasVertex yX1_hasVertex, Cond.code yX1_hasVertex cX1_hasVertex 2 (some .boolean), Cond.fieldLink RX1 35 "CreditGame$Graph" "vertexCount" "I", Cond.instanceMethod yX2_has, Cond.initialized RX2, Cond.selects RX2 yX2_has yX2_has, Cond.code yX2_has cX2_has 2 (some .boolean), Cond.fieldLink RX2 9 "CreditGame$Path" "steps" "[I", Cond.methodLink RX2 24 yX2_isPlace, Cond.instanceMethod yX2_isPlace, Cond.selects RX2 yX2_isPlace yX2_isPlace, Cond.code yX2_isPlace cX2_isPlace 2 (some .boolean), Cond.instanceMethod yX2_stepsTo, Cond.selects RX2 yX2_stepsTo yX2_stepsTo, Cond.code yX2_stepsTo cX2_stepsTo 2 (some .int), Cond.instanceMethod yX2_sumTo, Cond.selects RX2 yX2_sumTo yX2_sumTo, Cond.code yX2_sumTo cX2_sumTo 2 (some .int), Cond.fieldLink RX2 15 "CreditGame$Path" "sums" "[I", Cond.methodLink RX3 71 yX3_loopParts]
def wsX3_playAt_r2 : List Cond := [Cond.static yX3_loopParts, Cond.initialized RX3, Cond.code yX3_loopParts cX3_loopParts 2 (some .int), Cond.instanceMethod yX2_enter, Cond.selects RX2 yX2_enter yX2_enter, Cond.code yX2_enter cX2_enter 4 none, Cond.instanceMethod yX1_ownerOf, Cond.selects RX1 yX1_ownerOf yX1_ownerOf, Cond.code yX1_ownerOf cX1_ownerOf 2 (some .int), Cond.fieldLink RX1 9 "CreditGame$Graph" "owner" "[I", Cond.methodLink RX1 42 yX1_hasVertex, Cond.methodLink RX3 81 yX3_greatestPay, Cond.instanceMethod yX3_greatestPay, Cond.selects RX3 yX3_greatestPay yX3_greatestPay, Cond.methodLink RX3 84 yX3_leastPay, Cond.instanceMethod yX3_leastPay, Cond.selects RX3 yX3_leastPay yX3_leastPay, Cond.instanceMethod yX2_leave, Cond.selects RX2 yX2_leave yX2_leave, Cond.code yX2_leave cX2_leave 2 none, Cond.code yX3_greatestPay cX3_greatestPay 11 (some .int), Cond.constant RX3 43 (-1000000), Cond.methodLink RX3 102 Lib.Math.max.name, Cond.static Lib.Math.max.name]
def wsX3_playAt_r3 : List Cond := [Cond.initialized "java/lang/Math", Cond.code Lib.Math.max.name Lib.Math.max.code 2 (some .int), Cond.instanceMethod yX1_waysFrom, Cond.selects RX1 yX1_waysFrom yX1_waysFrom, Cond.code yX1_waysFrom cX1_waysFrom 2 (some .int), Cond.fieldLink RX1 15 "CreditGame$Graph" "fixedTo" "[I", Cond.fieldLink RX1 18 "CreditGame$Graph" "outCount" "[I", Cond.instanceMethod yX1_wayFrom, Cond.selects RX1 yX1_wayFrom yX1_wayFrom, Cond.code yX1_wayFrom cX1_wayFrom 3 (some .int), Cond.fieldLink RX1 23 "CreditGame$Graph" "out" "[[I", Cond.instanceMethod yX1_targetOf, Cond.selects RX1 yX1_targetOf yX1_targetOf, Cond.code yX1_targetOf cX1_targetOf 2 (some .int), Cond.fieldLink RX1 29 "CreditGame$Graph" "target" "[I", Cond.instanceMethod yX1_weightOf, Cond.selects RX1 yX1_weightOf yX1_weightOf, Cond.code yX1_weightOf cX1_weightOf 2 (some .int), Cond.fieldLink RX1 32 "CreditGame$Graph" "weight" "[I", Cond.methodLink RX3 45 yX3_playAt, Cond.instanceMethod yX3_playAt, Cond.selects RX3 yX3_playAt yX3_playAt, Cond.code yX3_leastPay cX3_leastPay 11 (some .int), Cond.constant RX3 44 (1000000)]
def wsX3_playAt_r4 : List Cond := [Cond.methodLink RX3 107 Lib.Math.min.name, Cond.static Lib.Math.min.name, Cond.code Lib.Math.min.name Lib.Math.min.code 2 (some .int)]
def wsX3_playAt : List Cond := .code yX3_playAt cX3_playAt 7 (some .int) :: ((wsX3_playAt_r1 ++ (wsX3_playAt_r2 ++ (wsX3_playAt_r3 ++ wsX3_playAt_r4))) ++ wsX30 ++ wsX10 ++ wsX20)
def wsX3_find_r1 : List Cond := [Cond.fieldLink RX3 26 "CreditGame$Values" "graph" "LCreditGame$Graph;", Cond.fieldLink RX3 18 "CreditGame$Values" "known" "[Z", Cond.fieldLink RX3 12 "CreditGame$Values" "path" "LCreditGame$Path;", Cond.fieldLink RX3 22 "CreditGame$Values" "parts" "[I", Cond.constant RX3 43 (-1000000), Cond.constant RX3 44 (1000000), Cond.instanceMethod yX1_hasVertex, Cond.initialized RX1, Cond.selects RX1 yX1_hasVertex yX1_hasVertex, Cond.code yX1_hasVertex cX1_hasVertex 2 (some .boolean), Cond.fieldLink RX1 35 "CreditGame$Graph" "vertexCount" "I", Cond.instanceMethod yX2_clear, Cond.initialized RX2, Cond.selects RX2 yX2_clear yX2_clear, Cond.code yX2_clear cX2_clear 1 none, Cond.fieldLink RX2 9 "CreditGame$Path" "steps" "[I", Cond.methodLink RX2 18 yJ7_fill_53178, Cond.static yJ7_fill_53178, Cond.initialized RJ7, Cond.code yJ7_fill_53178 cJ7_fill_53178 4 none, Cond.methodLink RX3 45 yX3_playAt, Cond.instanceMethod yX3_playAt, Cond.selects RX3 yX3_playAt yX3_playAt, Cond.initialized RX3]
def wsX3_find_r2 : List Cond := [Cond.code yX3_playAt cX3_playAt 7 (some .int), Cond.instanceMethod yX2_has, Cond.selects RX2 yX2_has yX2_has, Cond.code yX2_has cX2_has 2 (some .boolean), Cond.methodLink RX2 24 yX2_isPlace, Cond.instanceMethod yX2_isPlace, Cond.selects RX2 yX2_isPlace yX2_isPlace, Cond.code yX2_isPlace cX2_isPlace 2 (some .boolean), Cond.instanceMethod yX2_stepsTo, Cond.selects RX2 yX2_stepsTo yX2_stepsTo, Cond.code yX2_stepsTo cX2_stepsTo 2 (some .int), Cond.instanceMethod yX2_sumTo, Cond.selects RX2 yX2_sumTo yX2_sumTo, Cond.code yX2_sumTo cX2_sumTo 2 (some .int), Cond.fieldLink RX2 15 "CreditGame$Path" "sums" "[I", Cond.methodLink RX3 71 yX3_loopParts, Cond.static yX3_loopParts, Cond.code yX3_loopParts cX3_loopParts 2 (some .int), Cond.instanceMethod yX2_enter, Cond.selects RX2 yX2_enter yX2_enter, Cond.code yX2_enter cX2_enter 4 none, Cond.instanceMethod yX1_ownerOf, Cond.selects RX1 yX1_ownerOf yX1_ownerOf, Cond.code yX1_ownerOf cX1_ownerOf 2 (some .int)]
def wsX3_find_r3 : List Cond := [Cond.fieldLink RX1 9 "CreditGame$Graph" "owner" "[I", Cond.methodLink RX1 42 yX1_hasVertex, Cond.methodLink RX3 81 yX3_greatestPay, Cond.instanceMethod yX3_greatestPay, Cond.selects RX3 yX3_greatestPay yX3_greatestPay, Cond.methodLink RX3 84 yX3_leastPay, Cond.instanceMethod yX3_leastPay, Cond.selects RX3 yX3_leastPay yX3_leastPay, Cond.instanceMethod yX2_leave, Cond.selects RX2 yX2_leave yX2_leave, Cond.code yX2_leave cX2_leave 2 none, Cond.code yX3_greatestPay cX3_greatestPay 11 (some .int), Cond.methodLink RX3 102 Lib.Math.max.name, Cond.static Lib.Math.max.name, Cond.initialized "java/lang/Math", Cond.code Lib.Math.max.name Lib.Math.max.code 2 (some .int), Cond.instanceMethod yX1_waysFrom, Cond.selects RX1 yX1_waysFrom yX1_waysFrom, Cond.code yX1_waysFrom cX1_waysFrom 2 (some .int), Cond.fieldLink RX1 15 "CreditGame$Graph" "fixedTo" "[I", Cond.fieldLink RX1 18 "CreditGame$Graph" "outCount" "[I", Cond.instanceMethod yX1_wayFrom, Cond.selects RX1 yX1_wayFrom yX1_wayFrom, Cond.code yX1_wayFrom cX1_wayFrom 3 (some .int)]
def wsX3_find_r4 : List Cond := [Cond.fieldLink RX1 23 "CreditGame$Graph" "out" "[[I", Cond.instanceMethod yX1_targetOf, Cond.selects RX1 yX1_targetOf yX1_targetOf, Cond.code yX1_targetOf cX1_targetOf 2 (some .int), Cond.fieldLink RX1 29 "CreditGame$Graph" "target" "[I", Cond.instanceMethod yX1_weightOf, Cond.selects RX1 yX1_weightOf yX1_weightOf, Cond.code yX1_weightOf cX1_weightOf 2 (some .int), Cond.fieldLink RX1 32 "CreditGame$Graph" "weight" "[I", Cond.code yX3_leastPay cX3_leastPay 11 (some .int), Cond.methodLink RX3 107 Lib.Math.min.name, Cond.static Lib.Math.min.name, Cond.code Lib.Math.min.name Lib.Math.min.code 2 (some .int)]
def wsX3_find : List Cond := .code yX3_find cX3_find 2 none :: ((wsX3_find_r1 ++ (wsX3_find_r2 ++ (wsX3_find_r3 ++ wsX3_find_r4))) ++ wsX30 ++ wsX10 ++ wsX20)
def wsX3_findAll_r1 : List Cond := [Cond.methodLink RX3 30 yX3_find, Cond.instanceMethod yX3_find, Cond.selects RX3 yX3_find yX3_find, Cond.initialized RX3, Cond.code yX3_find cX3_find 2 none, Cond.fieldLink RX3 26 "CreditGame$Values" "graph" "LCreditGame$Graph;", Cond.fieldLink RX3 18 "CreditGame$Values" "known" "[Z", Cond.fieldLink RX3 12 "CreditGame$Values" "path" "LCreditGame$Path;", Cond.fieldLink RX3 22 "CreditGame$Values" "parts" "[I", Cond.constant RX3 43 (-1000000), Cond.constant RX3 44 (1000000), Cond.instanceMethod yX1_hasVertex, Cond.initialized RX1, Cond.selects RX1 yX1_hasVertex yX1_hasVertex, Cond.code yX1_hasVertex cX1_hasVertex 2 (some .boolean), Cond.fieldLink RX1 35 "CreditGame$Graph" "vertexCount" "I", Cond.instanceMethod yX2_clear, Cond.initialized RX2, Cond.selects RX2 yX2_clear yX2_clear, Cond.code yX2_clear cX2_clear 1 none, Cond.fieldLink RX2 9 "CreditGame$Path" "steps" "[I", Cond.methodLink RX2 18 yJ7_fill_53178, Cond.static yJ7_fill_53178, Cond.initialized RJ7]
def wsX3_findAll_r2 : List Cond := [Cond.code yJ7_fill_53178 cJ7_fill_53178 4 none, Cond.methodLink RX3 45 yX3_playAt, Cond.instanceMethod yX3_playAt, Cond.selects RX3 yX3_playAt yX3_playAt, Cond.code yX3_playAt cX3_playAt 7 (some .int), Cond.instanceMethod yX2_has, Cond.selects RX2 yX2_has yX2_has, Cond.code yX2_has cX2_has 2 (some .boolean), Cond.methodLink RX2 24 yX2_isPlace, Cond.instanceMethod yX2_isPlace, Cond.selects RX2 yX2_isPlace yX2_isPlace, Cond.code yX2_isPlace cX2_isPlace 2 (some .boolean), Cond.instanceMethod yX2_stepsTo, Cond.selects RX2 yX2_stepsTo yX2_stepsTo, Cond.code yX2_stepsTo cX2_stepsTo 2 (some .int), Cond.instanceMethod yX2_sumTo, Cond.selects RX2 yX2_sumTo yX2_sumTo, Cond.code yX2_sumTo cX2_sumTo 2 (some .int), Cond.fieldLink RX2 15 "CreditGame$Path" "sums" "[I", Cond.methodLink RX3 71 yX3_loopParts, Cond.static yX3_loopParts, Cond.code yX3_loopParts cX3_loopParts 2 (some .int), Cond.instanceMethod yX2_enter, Cond.selects RX2 yX2_enter yX2_enter]
def wsX3_findAll_r3 : List Cond := [Cond.code yX2_enter cX2_enter 4 none, Cond.instanceMethod yX1_ownerOf, Cond.selects RX1 yX1_ownerOf yX1_ownerOf, Cond.code yX1_ownerOf cX1_ownerOf 2 (some .int), Cond.fieldLink RX1 9 "CreditGame$Graph" "owner" "[I", Cond.methodLink RX1 42 yX1_hasVertex, Cond.methodLink RX3 81 yX3_greatestPay, Cond.instanceMethod yX3_greatestPay, Cond.selects RX3 yX3_greatestPay yX3_greatestPay, Cond.methodLink RX3 84 yX3_leastPay, Cond.instanceMethod yX3_leastPay, Cond.selects RX3 yX3_leastPay yX3_leastPay, Cond.instanceMethod yX2_leave, Cond.selects RX2 yX2_leave yX2_leave, Cond.code yX2_leave cX2_leave 2 none, Cond.code yX3_greatestPay cX3_greatestPay 11 (some .int), Cond.methodLink RX3 102 Lib.Math.max.name, Cond.static Lib.Math.max.name, Cond.initialized "java/lang/Math", Cond.code Lib.Math.max.name Lib.Math.max.code 2 (some .int), Cond.instanceMethod yX1_waysFrom, Cond.selects RX1 yX1_waysFrom yX1_waysFrom, Cond.code yX1_waysFrom cX1_waysFrom 2 (some .int), Cond.fieldLink RX1 15 "CreditGame$Graph" "fixedTo" "[I"]
def wsX3_findAll_r4 : List Cond := [Cond.fieldLink RX1 18 "CreditGame$Graph" "outCount" "[I", Cond.instanceMethod yX1_wayFrom, Cond.selects RX1 yX1_wayFrom yX1_wayFrom, Cond.code yX1_wayFrom cX1_wayFrom 3 (some .int), Cond.fieldLink RX1 23 "CreditGame$Graph" "out" "[[I", Cond.instanceMethod yX1_targetOf, Cond.selects RX1 yX1_targetOf yX1_targetOf, Cond.code yX1_targetOf cX1_targetOf 2 (some .int), Cond.fieldLink RX1 29 "CreditGame$Graph" "target" "[I", Cond.instanceMethod yX1_weightOf, Cond.selects RX1 yX1_weightOf yX1_weightOf, Cond.code yX1_weightOf cX1_weightOf 2 (some .int), Cond.fieldLink RX1 32 "CreditGame$Graph" "weight" "[I", Cond.code yX3_leastPay cX3_leastPay 11 (some .int), Cond.methodLink RX3 107 Lib.Math.min.name, Cond.static Lib.Math.min.name, Cond.code Lib.Math.min.name Lib.Math.min.code 2 (some .int)]
def wsX3_findAll : List Cond := .code yX3_findAll cX3_findAll 2 none :: ((wsX3_findAll_r1 ++ (wsX3_findAll_r2 ++ (wsX3_findAll_r3 ++ wsX3_findAll_r4))) ++ wsX30 ++ wsX10 ++ wsX20)
def wsX3_bottomOf : List Cond := .code yX3_bottomOf cX3_bottomOf 3 (some .int) :: ([.methodLink RX3 49 yX3_partsOf, .instanceMethod yX3_partsOf, .selects RX3 yX3_partsOf yX3_partsOf, .initialized RX3, .code yX3_partsOf cX3_partsOf 2 (some .int), .fieldLink RX3 26 "CreditGame$Values" "graph" "LCreditGame$Graph;", .fieldLink RX3 22 "CreditGame$Values" "parts" "[I", .instanceMethod yX1_hasVertex, .initialized RX1, .selects RX1 yX1_hasVertex yX1_hasVertex, .code yX1_hasVertex cX1_hasVertex 2 (some .boolean), .fieldLink RX1 35 "CreditGame$Graph" "vertexCount" "I"] ++ wsX30 ++ wsX10)
def wsX3_topOf : List Cond := .code yX3_topOf cX3_topOf 2 (some .int) :: ([.methodLink RX3 49 yX3_partsOf, .instanceMethod yX3_partsOf, .selects RX3 yX3_partsOf yX3_partsOf, .initialized RX3, .code yX3_partsOf cX3_partsOf 2 (some .int), .fieldLink RX3 26 "CreditGame$Values" "graph" "LCreditGame$Graph;", .fieldLink RX3 22 "CreditGame$Values" "parts" "[I", .instanceMethod yX1_hasVertex, .initialized RX1, .selects RX1 yX1_hasVertex yX1_hasVertex, .code yX1_hasVertex cX1_hasVertex 2 (some .boolean), .fieldLink RX1 35 "CreditGame$Graph" "vertexCount" "I", .methodLink RX3 53 yX3_bottomOf, .instanceMethod yX3_bottomOf, .selects RX3 yX3_bottomOf yX3_bottomOf, .code yX3_bottomOf cX3_bottomOf 3 (some .int)] ++ wsX30 ++ wsX10)
def wsX4_init_r1 : List Cond := [Cond.methodLink RX4 1 objectInit, Cond.instanceMethod objectInit, Cond.code objectInit ⟨#[0xb1]⟩ 1 none, Cond.classLink RX4 7 RX1, Cond.instantiable RX1 9, Cond.initialized RX1, Cond.fieldLink RX4 10 "CreditGame" "graph" "LCreditGame$Graph;", Cond.classLink RX4 16 RX3, Cond.instantiable RX3 4, Cond.initialized RX3, Cond.fieldLink RX4 21 "CreditGame" "values" "LCreditGame$Values;", Cond.classLink RX4 25 RX0, Cond.instantiable RX0 4, Cond.initialized RX0, Cond.fieldLink RX4 30 "CreditGame" "credits" "LCreditGame$Credits;", Cond.classLink RX4 34 RX2, Cond.instantiable RX2 2, Cond.initialized RX2, Cond.fieldLink RX4 37 "CreditGame" "walked" "LCreditGame$Path;", Cond.arrayClass .int, Cond.fieldLink RX4 41 "CreditGame" "chosen" "[I", Cond.instanceMethod yX1_init, Cond.code yX1_init cX1_init 1 none, Cond.methodLink RX1 3 objectInit]
def wsX4_init_r2 : List Cond := [Cond.fieldLink RX1 9 "CreditGame$Graph" "owner" "[I", Cond.fieldLink RX1 15 "CreditGame$Graph" "fixedTo" "[I", Cond.fieldLink RX1 18 "CreditGame$Graph" "outCount" "[I", Cond.classLink RX1 21 "[[I", Cond.fieldLink RX1 23 "CreditGame$Graph" "out" "[[I", Cond.fieldLink RX1 26 "CreditGame$Graph" "source" "[I", Cond.fieldLink RX1 29 "CreditGame$Graph" "target" "[I", Cond.fieldLink RX1 32 "CreditGame$Graph" "weight" "[I", Cond.fieldLink RX1 35 "CreditGame$Graph" "vertexCount" "I", Cond.fieldLink RX1 39 "CreditGame$Graph" "edgeCount" "I", Cond.instanceMethod yX3_init, Cond.code yX3_init cX3_init 2 none, Cond.methodLink RX3 3 objectInit, Cond.classLink RX3 9 RX2, Cond.fieldLink RX3 12 "CreditGame$Values" "path" "LCreditGame$Path;", Cond.arrayClass .boolean, Cond.fieldLink RX3 18 "CreditGame$Values" "known" "[Z", Cond.fieldLink RX3 22 "CreditGame$Values" "parts" "[I", Cond.fieldLink RX3 26 "CreditGame$Values" "graph" "LCreditGame$Graph;", Cond.instanceMethod yX2_init, Cond.code yX2_init cX2_init 1 none, Cond.methodLink RX2 3 objectInit, Cond.fieldLink RX2 9 "CreditGame$Path" "steps" "[I", Cond.fieldLink RX2 15 "CreditGame$Path" "sums" "[I"]
def wsX4_init_r3 : List Cond := [Cond.instanceMethod yX0_init, Cond.code yX0_init cX0_init 3 none, Cond.methodLink RX0 3 objectInit, Cond.fieldLink RX0 9 "CreditGame$Credits" "need" "[I", Cond.fieldLink RX0 15 "CreditGame$Credits" "gain" "[I", Cond.fieldLink RX0 18 "CreditGame$Credits" "graph" "LCreditGame$Graph;", Cond.fieldLink RX0 22 "CreditGame$Credits" "values" "LCreditGame$Values;"]
def wsX4_init : List Cond := .code yX4_init cX4_init 1 none :: ((wsX4_init_r1 ++ (wsX4_init_r2 ++ wsX4_init_r3)) ++ wsX10 ++ wsX40 ++ wsX30 ++ wsX00 ++ wsX20)
def wsX4_checkPlayer : List Cond := .code yX4_checkPlayer cX4_checkPlayer 2 none :: ([.classLink RX4 70 "java/lang/IllegalArgumentException", .initialized "java/lang/IllegalArgumentException"] ++ (vx_atS RX4 74 "java/lang/IllegalArgumentException" ["java/lang/RuntimeException", "java/lang/Exception"]).filter goodWord)
def wsX4_vertex : List Cond := .code yX4_vertex cX4_vertex 2 (some .int) :: ([.classLink RX4 53 "java/lang/IllegalStateException", .initialized "java/lang/IllegalStateException", .fieldLink RX4 10 "CreditGame" "graph" "LCreditGame$Graph;", .fieldLink RX4 21 "CreditGame" "values" "LCreditGame$Values;", .methodLink RX4 45 yX4_checkPlayer, .instanceMethod yX4_checkPlayer, .selects RX4 yX4_checkPlayer yX4_checkPlayer, .initialized RX4, .code yX4_checkPlayer cX4_checkPlayer 2 none, .classLink RX4 70 "java/lang/IllegalArgumentException", .initialized "java/lang/IllegalArgumentException", .instanceMethod yX3_forget, .initialized RX3, .selects RX3 yX3_forget yX3_forget, .code yX3_forget cX3_forget 2 none, .fieldLink RX3 18 "CreditGame$Values" "known" "[Z", .instanceMethod yX1_addVertex, .initialized RX1, .selects RX1 yX1_addVertex yX1_addVertex, .code yX1_addVertex cX1_addVertex 3 (some .int), .fieldLink RX1 35 "CreditGame$Graph" "vertexCount" "I", .fieldLink RX1 9 "CreditGame$Graph" "owner" "[I", .fieldLink RX1 15 "CreditGame$Graph" "fixedTo" "[I"] ++ wsX40 ++ wsX10 ++ wsX30 ++ (vx_atS RX4 57 "java/lang/IllegalStateException" ["java/lang/RuntimeException", "java/lang/Exception"]).filter goodWord ++ (vx_atS RX4 74 "java/lang/IllegalArgumentException" ["java/lang/RuntimeException", "java/lang/Exception"]).filter goodWord)
def wsX4_checkVertex : List Cond := .code yX4_checkVertex cX4_checkVertex 2 none :: ([.classLink RX4 70 "java/lang/IllegalArgumentException", .initialized "java/lang/IllegalArgumentException", .fieldLink RX4 10 "CreditGame" "graph" "LCreditGame$Graph;", .instanceMethod yX1_hasVertex, .initialized RX1, .selects RX1 yX1_hasVertex yX1_hasVertex, .code yX1_hasVertex cX1_hasVertex 2 (some .boolean), .fieldLink RX1 35 "CreditGame$Graph" "vertexCount" "I"] ++ wsX40 ++ wsX10 ++ (vx_atS RX4 74 "java/lang/IllegalArgumentException" ["java/lang/RuntimeException", "java/lang/Exception"]).filter goodWord)
def wsX4_edge_r1 : List Cond := [Cond.classLink RX4 70 "java/lang/IllegalArgumentException", Cond.initialized "java/lang/IllegalArgumentException", Cond.classLink RX4 53 "java/lang/IllegalStateException", Cond.initialized "java/lang/IllegalStateException", Cond.fieldLink RX4 10 "CreditGame" "graph" "LCreditGame$Graph;", Cond.fieldLink RX4 21 "CreditGame" "values" "LCreditGame$Values;", Cond.methodLink RX4 67 yX4_checkVertex, Cond.instanceMethod yX4_checkVertex, Cond.selects RX4 yX4_checkVertex yX4_checkVertex, Cond.initialized RX4, Cond.code yX4_checkVertex cX4_checkVertex 2 none, Cond.instanceMethod yX1_hasVertex, Cond.initialized RX1, Cond.selects RX1 yX1_hasVertex yX1_hasVertex, Cond.code yX1_hasVertex cX1_hasVertex 2 (some .boolean), Cond.fieldLink RX1 35 "CreditGame$Graph" "vertexCount" "I", Cond.instanceMethod yX3_forget, Cond.initialized RX3, Cond.selects RX3 yX3_forget yX3_forget, Cond.code yX3_forget cX3_forget 2 none, Cond.fieldLink RX3 18 "CreditGame$Values" "known" "[Z", Cond.instanceMethod yX1_addEdge, Cond.selects RX1 yX1_addEdge yX1_addEdge, Cond.code yX1_addEdge cX1_addEdge 6 (some .int)]
def wsX4_edge_r2 : List Cond := [Cond.fieldLink RX1 39 "CreditGame$Graph" "edgeCount" "I", Cond.fieldLink RX1 18 "CreditGame$Graph" "outCount" "[I", Cond.fieldLink RX1 26 "CreditGame$Graph" "source" "[I", Cond.fieldLink RX1 29 "CreditGame$Graph" "target" "[I", Cond.fieldLink RX1 32 "CreditGame$Graph" "weight" "[I", Cond.fieldLink RX1 23 "CreditGame$Graph" "out" "[[I", Cond.methodLink RX1 42 yX1_hasVertex]
def wsX4_edge : List Cond := .code yX4_edge cX4_edge 4 (some .int) :: ((wsX4_edge_r1 ++ wsX4_edge_r2) ++ wsX40 ++ wsX10 ++ wsX30 ++ (vx_atS RX4 74 "java/lang/IllegalArgumentException" ["java/lang/RuntimeException", "java/lang/Exception"]).filter goodWord ++ (vx_atS RX4 57 "java/lang/IllegalStateException" ["java/lang/RuntimeException", "java/lang/Exception"]).filter goodWord)
def wsX4_fix_r1 : List Cond := [Cond.classLink RX4 70 "java/lang/IllegalArgumentException", Cond.initialized "java/lang/IllegalArgumentException", Cond.fieldLink RX4 10 "CreditGame" "graph" "LCreditGame$Graph;", Cond.fieldLink RX4 21 "CreditGame" "values" "LCreditGame$Values;", Cond.methodLink RX4 67 yX4_checkVertex, Cond.instanceMethod yX4_checkVertex, Cond.selects RX4 yX4_checkVertex yX4_checkVertex, Cond.initialized RX4, Cond.code yX4_checkVertex cX4_checkVertex 2 none, Cond.instanceMethod yX1_hasVertex, Cond.initialized RX1, Cond.selects RX1 yX1_hasVertex yX1_hasVertex, Cond.code yX1_hasVertex cX1_hasVertex 2 (some .boolean), Cond.fieldLink RX1 35 "CreditGame$Graph" "vertexCount" "I", Cond.instanceMethod yX1_isFrom, Cond.selects RX1 yX1_isFrom yX1_isFrom, Cond.code yX1_isFrom cX1_isFrom 3 (some .boolean), Cond.fieldLink RX1 39 "CreditGame$Graph" "edgeCount" "I", Cond.fieldLink RX1 26 "CreditGame$Graph" "source" "[I", Cond.instanceMethod yX3_forget, Cond.initialized RX3, Cond.selects RX3 yX3_forget yX3_forget, Cond.code yX3_forget cX3_forget 2 none, Cond.fieldLink RX3 18 "CreditGame$Values" "known" "[Z"]
def wsX4_fix_r2 : List Cond := [Cond.instanceMethod yX1_setFixed, Cond.selects RX1 yX1_setFixed yX1_setFixed, Cond.code yX1_setFixed cX1_setFixed 3 none, Cond.fieldLink RX1 15 "CreditGame$Graph" "fixedTo" "[I", Cond.methodLink RX1 42 yX1_hasVertex]
def wsX4_fix : List Cond := .code yX4_fix cX4_fix 3 none :: ((wsX4_fix_r1 ++ wsX4_fix_r2) ++ wsX40 ++ wsX10 ++ wsX30 ++ (vx_atS RX4 74 "java/lang/IllegalArgumentException" ["java/lang/RuntimeException", "java/lang/Exception"]).filter goodWord)
def wsX4_fixed : List Cond := .code yX4_fixed cX4_fixed 2 (some .int) :: ([.fieldLink RX4 10 "CreditGame" "graph" "LCreditGame$Graph;", .methodLink RX4 67 yX4_checkVertex, .instanceMethod yX4_checkVertex, .selects RX4 yX4_checkVertex yX4_checkVertex, .initialized RX4, .code yX4_checkVertex cX4_checkVertex 2 none, .classLink RX4 70 "java/lang/IllegalArgumentException", .initialized "java/lang/IllegalArgumentException", .instanceMethod yX1_hasVertex, .initialized RX1, .selects RX1 yX1_hasVertex yX1_hasVertex, .code yX1_hasVertex cX1_hasVertex 2 (some .boolean), .fieldLink RX1 35 "CreditGame$Graph" "vertexCount" "I", .instanceMethod yX1_fixedOf, .selects RX1 yX1_fixedOf yX1_fixedOf, .code yX1_fixedOf cX1_fixedOf 2 (some .int), .fieldLink RX1 15 "CreditGame$Graph" "fixedTo" "[I", .methodLink RX1 42 yX1_hasVertex] ++ wsX40 ++ wsX10 ++ (vx_atS RX4 74 "java/lang/IllegalArgumentException" ["java/lang/RuntimeException", "java/lang/Exception"]).filter goodWord)
def wsX4_checkComplete : List Cond := .code yX4_checkComplete cX4_checkComplete 1 none :: ([.classLink RX4 53 "java/lang/IllegalStateException", .initialized "java/lang/IllegalStateException", .fieldLink RX4 10 "CreditGame" "graph" "LCreditGame$Graph;", .instanceMethod yX1_isComplete, .initialized RX1, .selects RX1 yX1_isComplete yX1_isComplete, .code yX1_isComplete cX1_isComplete 2 (some .boolean), .fieldLink RX1 35 "CreditGame$Graph" "vertexCount" "I", .methodLink RX1 46 yX1_waysFrom, .instanceMethod yX1_waysFrom, .selects RX1 yX1_waysFrom yX1_waysFrom, .code yX1_waysFrom cX1_waysFrom 2 (some .int), .fieldLink RX1 15 "CreditGame$Graph" "fixedTo" "[I", .fieldLink RX1 18 "CreditGame$Graph" "outCount" "[I", .methodLink RX1 42 yX1_hasVertex, .instanceMethod yX1_hasVertex, .selects RX1 yX1_hasVertex yX1_hasVertex, .code yX1_hasVertex cX1_hasVertex 2 (some .boolean)] ++ wsX40 ++ wsX10 ++ (vx_atS RX4 57 "java/lang/IllegalStateException" ["java/lang/RuntimeException", "java/lang/Exception"]).filter goodWord)
def wsX4_credit_r1 : List Cond := [Cond.fieldLink RX4 21 "CreditGame" "values" "LCreditGame$Values;", Cond.fieldLink RX4 30 "CreditGame" "credits" "LCreditGame$Credits;", Cond.methodLink RX4 67 yX4_checkVertex, Cond.instanceMethod yX4_checkVertex, Cond.selects RX4 yX4_checkVertex yX4_checkVertex, Cond.initialized RX4, Cond.code yX4_checkVertex cX4_checkVertex 2 none, Cond.classLink RX4 70 "java/lang/IllegalArgumentException", Cond.initialized "java/lang/IllegalArgumentException", Cond.fieldLink RX4 10 "CreditGame" "graph" "LCreditGame$Graph;", Cond.instanceMethod yX1_hasVertex, Cond.initialized RX1, Cond.selects RX1 yX1_hasVertex yX1_hasVertex, Cond.code yX1_hasVertex cX1_hasVertex 2 (some .boolean), Cond.fieldLink RX1 35 "CreditGame$Graph" "vertexCount" "I", Cond.methodLink RX4 97 yX4_checkComplete, Cond.instanceMethod yX4_checkComplete, Cond.selects RX4 yX4_checkComplete yX4_checkComplete, Cond.code yX4_checkComplete cX4_checkComplete 1 none, Cond.classLink RX4 53 "java/lang/IllegalStateException", Cond.initialized "java/lang/IllegalStateException", Cond.instanceMethod yX1_isComplete, Cond.selects RX1 yX1_isComplete yX1_isComplete, Cond.code yX1_isComplete cX1_isComplete 2 (some .boolean)]
def wsX4_credit_r2 : List Cond := [Cond.methodLink RX1 46 yX1_waysFrom, Cond.instanceMethod yX1_waysFrom, Cond.selects RX1 yX1_waysFrom yX1_waysFrom, Cond.code yX1_waysFrom cX1_waysFrom 2 (some .int), Cond.fieldLink RX1 15 "CreditGame$Graph" "fixedTo" "[I", Cond.fieldLink RX1 18 "CreditGame$Graph" "outCount" "[I", Cond.methodLink RX1 42 yX1_hasVertex, Cond.instanceMethod yX3_findAll, Cond.initialized RX3, Cond.selects RX3 yX3_findAll yX3_findAll, Cond.code yX3_findAll cX3_findAll 2 none, Cond.methodLink RX3 30 yX3_find, Cond.instanceMethod yX3_find, Cond.selects RX3 yX3_find yX3_find, Cond.code yX3_find cX3_find 2 none, Cond.fieldLink RX3 26 "CreditGame$Values" "graph" "LCreditGame$Graph;", Cond.fieldLink RX3 18 "CreditGame$Values" "known" "[Z", Cond.fieldLink RX3 12 "CreditGame$Values" "path" "LCreditGame$Path;", Cond.fieldLink RX3 22 "CreditGame$Values" "parts" "[I", Cond.constant RX3 43 (-1000000), Cond.constant RX3 44 (1000000), Cond.instanceMethod yX2_clear, Cond.initialized RX2, Cond.selects RX2 yX2_clear yX2_clear]
def wsX4_credit_r3 : List Cond := [Cond.code yX2_clear cX2_clear 1 none, Cond.fieldLink RX2 9 "CreditGame$Path" "steps" "[I", Cond.methodLink RX2 18 yJ7_fill_53178, Cond.static yJ7_fill_53178, Cond.initialized RJ7, Cond.code yJ7_fill_53178 cJ7_fill_53178 4 none, Cond.methodLink RX3 45 yX3_playAt, Cond.instanceMethod yX3_playAt, Cond.selects RX3 yX3_playAt yX3_playAt, Cond.code yX3_playAt cX3_playAt 7 (some .int), Cond.instanceMethod yX2_has, Cond.selects RX2 yX2_has yX2_has, Cond.code yX2_has cX2_has 2 (some .boolean), Cond.methodLink RX2 24 yX2_isPlace, Cond.instanceMethod yX2_isPlace, Cond.selects RX2 yX2_isPlace yX2_isPlace, Cond.code yX2_isPlace cX2_isPlace 2 (some .boolean), Cond.instanceMethod yX2_stepsTo, Cond.selects RX2 yX2_stepsTo yX2_stepsTo, Cond.code yX2_stepsTo cX2_stepsTo 2 (some .int), Cond.instanceMethod yX2_sumTo, Cond.selects RX2 yX2_sumTo yX2_sumTo, Cond.code yX2_sumTo cX2_sumTo 2 (some .int), Cond.fieldLink RX2 15 "CreditGame$Path" "sums" "[I"]
def wsX4_credit_r4 : List Cond := [Cond.methodLink RX3 71 yX3_loopParts, Cond.static yX3_loopParts, Cond.code yX3_loopParts cX3_loopParts 2 (some .int), Cond.instanceMethod yX2_enter, Cond.selects RX2 yX2_enter yX2_enter, Cond.code yX2_enter cX2_enter 4 none, Cond.instanceMethod yX1_ownerOf, Cond.selects RX1 yX1_ownerOf yX1_ownerOf, Cond.code yX1_ownerOf cX1_ownerOf 2 (some .int), Cond.fieldLink RX1 9 "CreditGame$Graph" "owner" "[I", Cond.methodLink RX3 81 yX3_greatestPay, Cond.instanceMethod yX3_greatestPay, Cond.selects RX3 yX3_greatestPay yX3_greatestPay, Cond.methodLink RX3 84 yX3_leastPay, Cond.instanceMethod yX3_leastPay, Cond.selects RX3 yX3_leastPay yX3_leastPay, Cond.instanceMethod yX2_leave, Cond.selects RX2 yX2_leave yX2_leave, Cond.code yX2_leave cX2_leave 2 none, Cond.code yX3_greatestPay cX3_greatestPay 11 (some .int), Cond.methodLink RX3 102 Lib.Math.max.name, Cond.static Lib.Math.max.name, Cond.initialized "java/lang/Math", Cond.code Lib.Math.max.name Lib.Math.max.code 2 (some .int)]
def wsX4_credit_r5 : List Cond := [Cond.instanceMethod yX1_wayFrom, Cond.selects RX1 yX1_wayFrom yX1_wayFrom, Cond.code yX1_wayFrom cX1_wayFrom 3 (some .int), Cond.fieldLink RX1 23 "CreditGame$Graph" "out" "[[I", Cond.instanceMethod yX1_targetOf, Cond.selects RX1 yX1_targetOf yX1_targetOf, Cond.code yX1_targetOf cX1_targetOf 2 (some .int), Cond.fieldLink RX1 29 "CreditGame$Graph" "target" "[I", Cond.instanceMethod yX1_weightOf, Cond.selects RX1 yX1_weightOf yX1_weightOf, Cond.code yX1_weightOf cX1_weightOf 2 (some .int), Cond.fieldLink RX1 32 "CreditGame$Graph" "weight" "[I", Cond.code yX3_leastPay cX3_leastPay 11 (some .int), Cond.methodLink RX3 107 Lib.Math.min.name, Cond.static Lib.Math.min.name, Cond.code Lib.Math.min.name Lib.Math.min.code 2 (some .int), Cond.instanceMethod yX0_solve, Cond.initialized RX0, Cond.selects RX0 yX0_solve yX0_solve, Cond.code yX0_solve cX0_solve 8 none, Cond.fieldLink RX0 18 "CreditGame$Credits" "graph" "LCreditGame$Graph;", Cond.fieldLink RX0 15 "CreditGame$Credits" "gain" "[I", Cond.fieldLink RX0 9 "CreditGame$Credits" "need" "[I", Cond.fieldLink RX0 22 "CreditGame$Credits" "values" "LCreditGame$Values;"]
def wsX4_credit_r6 : List Cond := [Cond.instanceMethod yX3_order, Cond.selects RX3 yX3_order yX3_order, Cond.code yX3_order cX3_order 4 (some .int), Cond.methodLink RX3 49 yX3_partsOf, Cond.instanceMethod yX3_partsOf, Cond.selects RX3 yX3_partsOf yX3_partsOf, Cond.code yX3_partsOf cX3_partsOf 2 (some .int), Cond.methodLink RX3 56 yJ6_compare_7cf53, Cond.static yJ6_compare_7cf53, Cond.initialized RJ6, Cond.code yJ6_compare_7cf53 cJ6_compare_7cf53 2 (some .int), Cond.methodLink RX0 38 yX0_isGoodFor, Cond.instanceMethod yX0_isGoodFor, Cond.selects RX0 yX0_isGoodFor yX0_isGoodFor, Cond.code yX0_isGoodFor cX0_isGoodFor 3 (some .boolean), Cond.methodLink RX0 45 yX0_enoughAt, Cond.instanceMethod yX0_enoughAt, Cond.selects RX0 yX0_enoughAt yX0_enoughAt, Cond.code yX0_enoughAt cX0_enoughAt 8 (some .int), Cond.methodLink RX0 56 yX0_needBefore, Cond.instanceMethod yX0_needBefore, Cond.selects RX0 yX0_needBefore yX0_needBefore, Cond.code yX0_needBefore cX0_needBefore 3 (some .int), Cond.methodLink RX0 68 Lib.Math.max.name]
def wsX4_credit_r7 : List Cond := [Cond.methodLink RX0 62 yX0_needOf, Cond.instanceMethod yX0_needOf, Cond.selects RX0 yX0_needOf yX0_needOf, Cond.code yX0_needOf cX0_needOf 2 (some .int), Cond.methodLink RX0 65 yX0_gainOf, Cond.instanceMethod yX0_gainOf, Cond.selects RX0 yX0_gainOf yX0_gainOf, Cond.code yX0_gainOf cX0_gainOf 2 (some .int)]
def wsX4_credit : List Cond := .code yX4_credit cX4_credit 2 (some .int) :: ((wsX4_credit_r1 ++ (wsX4_credit_r2 ++ (wsX4_credit_r3 ++ (wsX4_credit_r4 ++ (wsX4_credit_r5 ++ (wsX4_credit_r6 ++ wsX4_credit_r7)))))) ++ wsX40 ++ wsX10 ++ wsX30 ++ wsX20 ++ wsX00 ++ (vx_atS RX4 74 "java/lang/IllegalArgumentException" ["java/lang/RuntimeException", "java/lang/Exception"]).filter goodWord ++ (vx_atS RX4 57 "java/lang/IllegalStateException" ["java/lang/RuntimeException", "java/lang/Exception"]).filter goodWord)
def wsX4_reaches_r1 : List Cond := [Cond.classLink RX4 70 "java/lang/IllegalArgumentException", Cond.initialized "java/lang/IllegalArgumentException", Cond.fieldLink RX4 21 "CreditGame" "values" "LCreditGame$Values;", Cond.methodLink RX4 67 yX4_checkVertex, Cond.instanceMethod yX4_checkVertex, Cond.selects RX4 yX4_checkVertex yX4_checkVertex, Cond.initialized RX4, Cond.code yX4_checkVertex cX4_checkVertex 2 none, Cond.fieldLink RX4 10 "CreditGame" "graph" "LCreditGame$Graph;", Cond.instanceMethod yX1_hasVertex, Cond.initialized RX1, Cond.selects RX1 yX1_hasVertex yX1_hasVertex, Cond.code yX1_hasVertex cX1_hasVertex 2 (some .boolean), Cond.fieldLink RX1 35 "CreditGame$Graph" "vertexCount" "I", Cond.methodLink RX4 97 yX4_checkComplete, Cond.instanceMethod yX4_checkComplete, Cond.selects RX4 yX4_checkComplete yX4_checkComplete, Cond.code yX4_checkComplete cX4_checkComplete 1 none, Cond.classLink RX4 53 "java/lang/IllegalStateException", Cond.initialized "java/lang/IllegalStateException", Cond.instanceMethod yX1_isComplete, Cond.selects RX1 yX1_isComplete yX1_isComplete, Cond.code yX1_isComplete cX1_isComplete 2 (some .boolean), Cond.methodLink RX1 46 yX1_waysFrom]
def wsX4_reaches_r2 : List Cond := [Cond.instanceMethod yX1_waysFrom, Cond.selects RX1 yX1_waysFrom yX1_waysFrom, Cond.code yX1_waysFrom cX1_waysFrom 2 (some .int), Cond.fieldLink RX1 15 "CreditGame$Graph" "fixedTo" "[I", Cond.fieldLink RX1 18 "CreditGame$Graph" "outCount" "[I", Cond.methodLink RX1 42 yX1_hasVertex, Cond.instanceMethod yX3_find, Cond.initialized RX3, Cond.selects RX3 yX3_find yX3_find, Cond.code yX3_find cX3_find 2 none, Cond.fieldLink RX3 26 "CreditGame$Values" "graph" "LCreditGame$Graph;", Cond.fieldLink RX3 18 "CreditGame$Values" "known" "[Z", Cond.fieldLink RX3 12 "CreditGame$Values" "path" "LCreditGame$Path;", Cond.fieldLink RX3 22 "CreditGame$Values" "parts" "[I", Cond.constant RX3 43 (-1000000), Cond.constant RX3 44 (1000000), Cond.instanceMethod yX2_clear, Cond.initialized RX2, Cond.selects RX2 yX2_clear yX2_clear, Cond.code yX2_clear cX2_clear 1 none, Cond.fieldLink RX2 9 "CreditGame$Path" "steps" "[I", Cond.methodLink RX2 18 yJ7_fill_53178, Cond.static yJ7_fill_53178, Cond.initialized RJ7]
def wsX4_reaches_r3 : List Cond := [Cond.code yJ7_fill_53178 cJ7_fill_53178 4 none, Cond.methodLink RX3 45 yX3_playAt, Cond.instanceMethod yX3_playAt, Cond.selects RX3 yX3_playAt yX3_playAt, Cond.code yX3_playAt cX3_playAt 7 (some .int), Cond.instanceMethod yX2_has, Cond.selects RX2 yX2_has yX2_has, Cond.code yX2_has cX2_has 2 (some .boolean), Cond.methodLink RX2 24 yX2_isPlace, Cond.instanceMethod yX2_isPlace, Cond.selects RX2 yX2_isPlace yX2_isPlace, Cond.code yX2_isPlace cX2_isPlace 2 (some .boolean), Cond.instanceMethod yX2_stepsTo, Cond.selects RX2 yX2_stepsTo yX2_stepsTo, Cond.code yX2_stepsTo cX2_stepsTo 2 (some .int), Cond.instanceMethod yX2_sumTo, Cond.selects RX2 yX2_sumTo yX2_sumTo, Cond.code yX2_sumTo cX2_sumTo 2 (some .int), Cond.fieldLink RX2 15 "CreditGame$Path" "sums" "[I", Cond.methodLink RX3 71 yX3_loopParts, Cond.static yX3_loopParts, Cond.code yX3_loopParts cX3_loopParts 2 (some .int), Cond.instanceMethod yX2_enter, Cond.selects RX2 yX2_enter yX2_enter]
def wsX4_reaches_r4 : List Cond := [Cond.code yX2_enter cX2_enter 4 none, Cond.instanceMethod yX1_ownerOf, Cond.selects RX1 yX1_ownerOf yX1_ownerOf, Cond.code yX1_ownerOf cX1_ownerOf 2 (some .int), Cond.fieldLink RX1 9 "CreditGame$Graph" "owner" "[I", Cond.methodLink RX3 81 yX3_greatestPay, Cond.instanceMethod yX3_greatestPay, Cond.selects RX3 yX3_greatestPay yX3_greatestPay, Cond.methodLink RX3 84 yX3_leastPay, Cond.instanceMethod yX3_leastPay, Cond.selects RX3 yX3_leastPay yX3_leastPay, Cond.instanceMethod yX2_leave, Cond.selects RX2 yX2_leave yX2_leave, Cond.code yX2_leave cX2_leave 2 none, Cond.code yX3_greatestPay cX3_greatestPay 11 (some .int), Cond.methodLink RX3 102 Lib.Math.max.name, Cond.static Lib.Math.max.name, Cond.initialized "java/lang/Math", Cond.code Lib.Math.max.name Lib.Math.max.code 2 (some .int), Cond.instanceMethod yX1_wayFrom, Cond.selects RX1 yX1_wayFrom yX1_wayFrom, Cond.code yX1_wayFrom cX1_wayFrom 3 (some .int), Cond.fieldLink RX1 23 "CreditGame$Graph" "out" "[[I", Cond.instanceMethod yX1_targetOf]
def wsX4_reaches_r5 : List Cond := [Cond.selects RX1 yX1_targetOf yX1_targetOf, Cond.code yX1_targetOf cX1_targetOf 2 (some .int), Cond.fieldLink RX1 29 "CreditGame$Graph" "target" "[I", Cond.instanceMethod yX1_weightOf, Cond.selects RX1 yX1_weightOf yX1_weightOf, Cond.code yX1_weightOf cX1_weightOf 2 (some .int), Cond.fieldLink RX1 32 "CreditGame$Graph" "weight" "[I", Cond.code yX3_leastPay cX3_leastPay 11 (some .int), Cond.methodLink RX3 107 Lib.Math.min.name, Cond.static Lib.Math.min.name, Cond.code Lib.Math.min.name Lib.Math.min.code 2 (some .int), Cond.instanceMethod yX3_order, Cond.selects RX3 yX3_order yX3_order, Cond.code yX3_order cX3_order 4 (some .int), Cond.methodLink RX3 49 yX3_partsOf, Cond.instanceMethod yX3_partsOf, Cond.selects RX3 yX3_partsOf yX3_partsOf, Cond.code yX3_partsOf cX3_partsOf 2 (some .int), Cond.methodLink RX3 56 yJ6_compare_7cf53, Cond.static yJ6_compare_7cf53, Cond.initialized RJ6, Cond.code yJ6_compare_7cf53 cJ6_compare_7cf53 2 (some .int)]
def wsX4_reaches : List Cond := .code yX4_reaches cX4_reaches 4 (some .boolean) :: ((wsX4_reaches_r1 ++ (wsX4_reaches_r2 ++ (wsX4_reaches_r3 ++ (wsX4_reaches_r4 ++ wsX4_reaches_r5)))) ++ wsX40 ++ wsX10 ++ wsX30 ++ wsX20 ++ (vx_atS RX4 74 "java/lang/IllegalArgumentException" ["java/lang/RuntimeException", "java/lang/Exception"]).filter goodWord ++ (vx_atS RX4 57 "java/lang/IllegalStateException" ["java/lang/RuntimeException", "java/lang/Exception"]).filter goodWord)
def wsX4_value_r1 : List Cond := [Cond.fieldLink RX4 21 "CreditGame" "values" "LCreditGame$Values;", Cond.methodLink RX4 67 yX4_checkVertex, Cond.instanceMethod yX4_checkVertex, Cond.selects RX4 yX4_checkVertex yX4_checkVertex, Cond.initialized RX4, Cond.code yX4_checkVertex cX4_checkVertex 2 none, Cond.classLink RX4 70 "java/lang/IllegalArgumentException", Cond.initialized "java/lang/IllegalArgumentException", Cond.fieldLink RX4 10 "CreditGame" "graph" "LCreditGame$Graph;", Cond.instanceMethod yX1_hasVertex, Cond.initialized RX1, Cond.selects RX1 yX1_hasVertex yX1_hasVertex, Cond.code yX1_hasVertex cX1_hasVertex 2 (some .boolean), Cond.fieldLink RX1 35 "CreditGame$Graph" "vertexCount" "I", Cond.methodLink RX4 97 yX4_checkComplete, Cond.instanceMethod yX4_checkComplete, Cond.selects RX4 yX4_checkComplete yX4_checkComplete, Cond.code yX4_checkComplete cX4_checkComplete 1 none, Cond.classLink RX4 53 "java/lang/IllegalStateException", Cond.initialized "java/lang/IllegalStateException", Cond.instanceMethod yX1_isComplete, Cond.selects RX1 yX1_isComplete yX1_isComplete, Cond.code yX1_isComplete cX1_isComplete 2 (some .boolean), Cond.methodLink RX1 46 yX1_waysFrom]
def wsX4_value_r2 : List Cond := [Cond.instanceMethod yX1_waysFrom, Cond.selects RX1 yX1_waysFrom yX1_waysFrom, Cond.code yX1_waysFrom cX1_waysFrom 2 (some .int), Cond.fieldLink RX1 15 "CreditGame$Graph" "fixedTo" "[I", Cond.fieldLink RX1 18 "CreditGame$Graph" "outCount" "[I", Cond.methodLink RX1 42 yX1_hasVertex, Cond.instanceMethod yX3_find, Cond.initialized RX3, Cond.selects RX3 yX3_find yX3_find, Cond.code yX3_find cX3_find 2 none, Cond.fieldLink RX3 26 "CreditGame$Values" "graph" "LCreditGame$Graph;", Cond.fieldLink RX3 18 "CreditGame$Values" "known" "[Z", Cond.fieldLink RX3 12 "CreditGame$Values" "path" "LCreditGame$Path;", Cond.fieldLink RX3 22 "CreditGame$Values" "parts" "[I", Cond.constant RX3 43 (-1000000), Cond.constant RX3 44 (1000000), Cond.instanceMethod yX2_clear, Cond.initialized RX2, Cond.selects RX2 yX2_clear yX2_clear, Cond.code yX2_clear cX2_clear 1 none, Cond.fieldLink RX2 9 "CreditGame$Path" "steps" "[I", Cond.methodLink RX2 18 yJ7_fill_53178, Cond.static yJ7_fill_53178, Cond.initialized RJ7]
def wsX4_value_r3 : List Cond := [Cond.code yJ7_fill_53178 cJ7_fill_53178 4 none, Cond.methodLink RX3 45 yX3_playAt, Cond.instanceMethod yX3_playAt, Cond.selects RX3 yX3_playAt yX3_playAt, Cond.code yX3_playAt cX3_playAt 7 (some .int), Cond.instanceMethod yX2_has, Cond.selects RX2 yX2_has yX2_has, Cond.code yX2_has cX2_has 2 (some .boolean), Cond.methodLink RX2 24 yX2_isPlace, Cond.instanceMethod yX2_isPlace, Cond.selects RX2 yX2_isPlace yX2_isPlace, Cond.code yX2_isPlace cX2_isPlace 2 (some .boolean), Cond.instanceMethod yX2_stepsTo, Cond.selects RX2 yX2_stepsTo yX2_stepsTo, Cond.code yX2_stepsTo cX2_stepsTo 2 (some .int), Cond.instanceMethod yX2_sumTo, Cond.selects RX2 yX2_sumTo yX2_sumTo, Cond.code yX2_sumTo cX2_sumTo 2 (some .int), Cond.fieldLink RX2 15 "CreditGame$Path" "sums" "[I", Cond.methodLink RX3 71 yX3_loopParts, Cond.static yX3_loopParts, Cond.code yX3_loopParts cX3_loopParts 2 (some .int), Cond.instanceMethod yX2_enter, Cond.selects RX2 yX2_enter yX2_enter]
def wsX4_value_r4 : List Cond := [Cond.code yX2_enter cX2_enter 4 none, Cond.instanceMethod yX1_ownerOf, Cond.selects RX1 yX1_ownerOf yX1_ownerOf, Cond.code yX1_ownerOf cX1_ownerOf 2 (some .int), Cond.fieldLink RX1 9 "CreditGame$Graph" "owner" "[I", Cond.methodLink RX3 81 yX3_greatestPay, Cond.instanceMethod yX3_greatestPay, Cond.selects RX3 yX3_greatestPay yX3_greatestPay, Cond.methodLink RX3 84 yX3_leastPay, Cond.instanceMethod yX3_leastPay, Cond.selects RX3 yX3_leastPay yX3_leastPay, Cond.instanceMethod yX2_leave, Cond.selects RX2 yX2_leave yX2_leave, Cond.code yX2_leave cX2_leave 2 none, Cond.code yX3_greatestPay cX3_greatestPay 11 (some .int), Cond.methodLink RX3 102 Lib.Math.max.name, Cond.static Lib.Math.max.name, Cond.initialized "java/lang/Math", Cond.code Lib.Math.max.name Lib.Math.max.code 2 (some .int), Cond.instanceMethod yX1_wayFrom, Cond.selects RX1 yX1_wayFrom yX1_wayFrom, Cond.code yX1_wayFrom cX1_wayFrom 3 (some .int), Cond.fieldLink RX1 23 "CreditGame$Graph" "out" "[[I", Cond.instanceMethod yX1_targetOf]
def wsX4_value_r5 : List Cond := [Cond.selects RX1 yX1_targetOf yX1_targetOf, Cond.code yX1_targetOf cX1_targetOf 2 (some .int), Cond.fieldLink RX1 29 "CreditGame$Graph" "target" "[I", Cond.instanceMethod yX1_weightOf, Cond.selects RX1 yX1_weightOf yX1_weightOf, Cond.code yX1_weightOf cX1_weightOf 2 (some .int), Cond.fieldLink RX1 32 "CreditGame$Graph" "weight" "[I", Cond.code yX3_leastPay cX3_leastPay 11 (some .int), Cond.methodLink RX3 107 Lib.Math.min.name, Cond.static Lib.Math.min.name, Cond.code Lib.Math.min.name Lib.Math.min.code 2 (some .int), Cond.instanceMethod yX3_bottomOf, Cond.selects RX3 yX3_bottomOf yX3_bottomOf, Cond.code yX3_bottomOf cX3_bottomOf 3 (some .int), Cond.methodLink RX3 49 yX3_partsOf, Cond.instanceMethod yX3_partsOf, Cond.selects RX3 yX3_partsOf yX3_partsOf, Cond.code yX3_partsOf cX3_partsOf 2 (some .int), Cond.instanceMethod yX3_topOf, Cond.selects RX3 yX3_topOf yX3_topOf, Cond.code yX3_topOf cX3_topOf 2 (some .int), Cond.methodLink RX3 53 yX3_bottomOf]
def wsX4_value : List Cond := .code yX4_value cX4_value 3 (some .int) :: ((wsX4_value_r1 ++ (wsX4_value_r2 ++ (wsX4_value_r3 ++ (wsX4_value_r4 ++ wsX4_value_r5)))) ++ wsX40 ++ wsX10 ++ wsX30 ++ wsX20 ++ (vx_atS RX4 74 "java/lang/IllegalArgumentException" ["java/lang/RuntimeException", "java/lang/Exception"]).filter goodWord ++ (vx_atS RX4 57 "java/lang/IllegalStateException" ["java/lang/RuntimeException", "java/lang/Exception"]).filter goodWord)
def wsX4_bestEdge_r1 : List Cond := [Cond.fieldLink RX4 30 "CreditGame" "credits" "LCreditGame$Credits;", Cond.fieldLink RX4 10 "CreditGame" "graph" "LCreditGame$Graph;", Cond.fieldLink RX4 21 "CreditGame" "values" "LCreditGame$Values;", Cond.instanceMethod yX1_ownerOf, Cond.initialized RX1, Cond.selects RX1 yX1_ownerOf yX1_ownerOf, Cond.code yX1_ownerOf cX1_ownerOf 2 (some .int), Cond.fieldLink RX1 9 "CreditGame$Graph" "owner" "[I", Cond.methodLink RX1 42 yX1_hasVertex, Cond.instanceMethod yX1_hasVertex, Cond.selects RX1 yX1_hasVertex yX1_hasVertex, Cond.code yX1_hasVertex cX1_hasVertex 2 (some .boolean), Cond.fieldLink RX1 35 "CreditGame$Graph" "vertexCount" "I", Cond.instanceMethod yX3_topOf, Cond.initialized RX3, Cond.selects RX3 yX3_topOf yX3_topOf, Cond.code yX3_topOf cX3_topOf 2 (some .int), Cond.methodLink RX3 49 yX3_partsOf, Cond.instanceMethod yX3_partsOf, Cond.selects RX3 yX3_partsOf yX3_partsOf, Cond.code yX3_partsOf cX3_partsOf 2 (some .int), Cond.fieldLink RX3 26 "CreditGame$Values" "graph" "LCreditGame$Graph;", Cond.fieldLink RX3 22 "CreditGame$Values" "parts" "[I", Cond.methodLink RX3 53 yX3_bottomOf]
def wsX4_bestEdge_r2 : List Cond := [Cond.instanceMethod yX3_bottomOf, Cond.selects RX3 yX3_bottomOf yX3_bottomOf, Cond.code yX3_bottomOf cX3_bottomOf 3 (some .int), Cond.instanceMethod yX0_solve, Cond.initialized RX0, Cond.selects RX0 yX0_solve yX0_solve, Cond.code yX0_solve cX0_solve 8 none, Cond.fieldLink RX0 18 "CreditGame$Credits" "graph" "LCreditGame$Graph;", Cond.fieldLink RX0 15 "CreditGame$Credits" "gain" "[I", Cond.fieldLink RX0 9 "CreditGame$Credits" "need" "[I", Cond.fieldLink RX0 22 "CreditGame$Credits" "values" "LCreditGame$Values;", Cond.instanceMethod yX1_weightOf, Cond.selects RX1 yX1_weightOf yX1_weightOf, Cond.code yX1_weightOf cX1_weightOf 2 (some .int), Cond.fieldLink RX1 32 "CreditGame$Graph" "weight" "[I", Cond.instanceMethod yX3_order, Cond.selects RX3 yX3_order yX3_order, Cond.code yX3_order cX3_order 4 (some .int), Cond.methodLink RX3 56 yJ6_compare_7cf53, Cond.static yJ6_compare_7cf53, Cond.initialized RJ6, Cond.code yJ6_compare_7cf53 cJ6_compare_7cf53 2 (some .int), Cond.methodLink RX0 38 yX0_isGoodFor, Cond.instanceMethod yX0_isGoodFor]
def wsX4_bestEdge_r3 : List Cond := [Cond.selects RX0 yX0_isGoodFor yX0_isGoodFor, Cond.code yX0_isGoodFor cX0_isGoodFor 3 (some .boolean), Cond.methodLink RX0 45 yX0_enoughAt, Cond.instanceMethod yX0_enoughAt, Cond.selects RX0 yX0_enoughAt yX0_enoughAt, Cond.code yX0_enoughAt cX0_enoughAt 8 (some .int), Cond.instanceMethod yX1_waysFrom, Cond.selects RX1 yX1_waysFrom yX1_waysFrom, Cond.code yX1_waysFrom cX1_waysFrom 2 (some .int), Cond.fieldLink RX1 15 "CreditGame$Graph" "fixedTo" "[I", Cond.fieldLink RX1 18 "CreditGame$Graph" "outCount" "[I", Cond.instanceMethod yX1_wayFrom, Cond.selects RX1 yX1_wayFrom yX1_wayFrom, Cond.code yX1_wayFrom cX1_wayFrom 3 (some .int), Cond.fieldLink RX1 23 "CreditGame$Graph" "out" "[[I", Cond.methodLink RX0 56 yX0_needBefore, Cond.instanceMethod yX0_needBefore, Cond.selects RX0 yX0_needBefore yX0_needBefore, Cond.code yX0_needBefore cX0_needBefore 3 (some .int), Cond.methodLink RX0 68 Lib.Math.max.name, Cond.static Lib.Math.max.name, Cond.initialized "java/lang/Math", Cond.code Lib.Math.max.name Lib.Math.max.code 2 (some .int), Cond.instanceMethod yX1_targetOf]
def wsX4_bestEdge_r4 : List Cond := [Cond.selects RX1 yX1_targetOf yX1_targetOf, Cond.code yX1_targetOf cX1_targetOf 2 (some .int), Cond.fieldLink RX1 29 "CreditGame$Graph" "target" "[I", Cond.methodLink RX0 62 yX0_needOf, Cond.instanceMethod yX0_needOf, Cond.selects RX0 yX0_needOf yX0_needOf, Cond.code yX0_needOf cX0_needOf 2 (some .int), Cond.methodLink RX0 65 yX0_gainOf, Cond.instanceMethod yX0_gainOf, Cond.selects RX0 yX0_gainOf yX0_gainOf, Cond.code yX0_gainOf cX0_gainOf 2 (some .int), Cond.instanceMethod yX0_allows, Cond.selects RX0 yX0_allows yX0_allows, Cond.code yX0_allows cX0_allows 4 (some .boolean)]
def wsX4_bestEdge : List Cond := .code yX4_bestEdge cX4_bestEdge 5 (some .int) :: ((wsX4_bestEdge_r1 ++ (wsX4_bestEdge_r2 ++ (wsX4_bestEdge_r3 ++ wsX4_bestEdge_r4))) ++ wsX40 ++ wsX10 ++ wsX30 ++ wsX00)
def wsX4_best_r1 : List Cond := [Cond.fieldLink RX4 21 "CreditGame" "values" "LCreditGame$Values;", Cond.methodLink RX4 67 yX4_checkVertex, Cond.instanceMethod yX4_checkVertex, Cond.selects RX4 yX4_checkVertex yX4_checkVertex, Cond.initialized RX4, Cond.code yX4_checkVertex cX4_checkVertex 2 none, Cond.classLink RX4 70 "java/lang/IllegalArgumentException", Cond.initialized "java/lang/IllegalArgumentException", Cond.fieldLink RX4 10 "CreditGame" "graph" "LCreditGame$Graph;", Cond.instanceMethod yX1_hasVertex, Cond.initialized RX1, Cond.selects RX1 yX1_hasVertex yX1_hasVertex, Cond.code yX1_hasVertex cX1_hasVertex 2 (some .boolean), Cond.fieldLink RX1 35 "CreditGame$Graph" "vertexCount" "I", Cond.methodLink RX4 97 yX4_checkComplete, Cond.instanceMethod yX4_checkComplete, Cond.selects RX4 yX4_checkComplete yX4_checkComplete, Cond.code yX4_checkComplete cX4_checkComplete 1 none, Cond.classLink RX4 53 "java/lang/IllegalStateException", Cond.initialized "java/lang/IllegalStateException", Cond.instanceMethod yX1_isComplete, Cond.selects RX1 yX1_isComplete yX1_isComplete, Cond.code yX1_isComplete cX1_isComplete 2 (some .boolean), Cond.methodLink RX1 46 yX1_waysFrom]
def wsX4_best_r2 : List Cond := [Cond.instanceMethod yX1_waysFrom, Cond.selects RX1 yX1_waysFrom yX1_waysFrom, Cond.code yX1_waysFrom cX1_waysFrom 2 (some .int), Cond.fieldLink RX1 15 "CreditGame$Graph" "fixedTo" "[I", Cond.fieldLink RX1 18 "CreditGame$Graph" "outCount" "[I", Cond.methodLink RX1 42 yX1_hasVertex, Cond.instanceMethod yX3_findAll, Cond.initialized RX3, Cond.selects RX3 yX3_findAll yX3_findAll, Cond.code yX3_findAll cX3_findAll 2 none, Cond.methodLink RX3 30 yX3_find, Cond.instanceMethod yX3_find, Cond.selects RX3 yX3_find yX3_find, Cond.code yX3_find cX3_find 2 none, Cond.fieldLink RX3 26 "CreditGame$Values" "graph" "LCreditGame$Graph;", Cond.fieldLink RX3 18 "CreditGame$Values" "known" "[Z", Cond.fieldLink RX3 12 "CreditGame$Values" "path" "LCreditGame$Path;", Cond.fieldLink RX3 22 "CreditGame$Values" "parts" "[I", Cond.constant RX3 43 (-1000000), Cond.constant RX3 44 (1000000), Cond.instanceMethod yX2_clear, Cond.initialized RX2, Cond.selects RX2 yX2_clear yX2_clear, Cond.code yX2_clear cX2_clear 1 none]
def wsX4_best_r3 : List Cond := [Cond.fieldLink RX2 9 "CreditGame$Path" "steps" "[I", Cond.methodLink RX2 18 yJ7_fill_53178, Cond.static yJ7_fill_53178, Cond.initialized RJ7, Cond.code yJ7_fill_53178 cJ7_fill_53178 4 none, Cond.methodLink RX3 45 yX3_playAt, Cond.instanceMethod yX3_playAt, Cond.selects RX3 yX3_playAt yX3_playAt, Cond.code yX3_playAt cX3_playAt 7 (some .int), Cond.instanceMethod yX2_has, Cond.selects RX2 yX2_has yX2_has, Cond.code yX2_has cX2_has 2 (some .boolean), Cond.methodLink RX2 24 yX2_isPlace, Cond.instanceMethod yX2_isPlace, Cond.selects RX2 yX2_isPlace yX2_isPlace, Cond.code yX2_isPlace cX2_isPlace 2 (some .boolean), Cond.instanceMethod yX2_stepsTo, Cond.selects RX2 yX2_stepsTo yX2_stepsTo, Cond.code yX2_stepsTo cX2_stepsTo 2 (some .int), Cond.instanceMethod yX2_sumTo, Cond.selects RX2 yX2_sumTo yX2_sumTo, Cond.code yX2_sumTo cX2_sumTo 2 (some .int), Cond.fieldLink RX2 15 "CreditGame$Path" "sums" "[I", Cond.methodLink RX3 71 yX3_loopParts]
def wsX4_best_r4 : List Cond := [Cond.static yX3_loopParts, Cond.code yX3_loopParts cX3_loopParts 2 (some .int), Cond.instanceMethod yX2_enter, Cond.selects RX2 yX2_enter yX2_enter, Cond.code yX2_enter cX2_enter 4 none, Cond.instanceMethod yX1_ownerOf, Cond.selects RX1 yX1_ownerOf yX1_ownerOf, Cond.code yX1_ownerOf cX1_ownerOf 2 (some .int), Cond.fieldLink RX1 9 "CreditGame$Graph" "owner" "[I", Cond.methodLink RX3 81 yX3_greatestPay, Cond.instanceMethod yX3_greatestPay, Cond.selects RX3 yX3_greatestPay yX3_greatestPay, Cond.methodLink RX3 84 yX3_leastPay, Cond.instanceMethod yX3_leastPay, Cond.selects RX3 yX3_leastPay yX3_leastPay, Cond.instanceMethod yX2_leave, Cond.selects RX2 yX2_leave yX2_leave, Cond.code yX2_leave cX2_leave 2 none, Cond.code yX3_greatestPay cX3_greatestPay 11 (some .int), Cond.methodLink RX3 102 Lib.Math.max.name, Cond.static Lib.Math.max.name, Cond.initialized "java/lang/Math", Cond.code Lib.Math.max.name Lib.Math.max.code 2 (some .int), Cond.instanceMethod yX1_wayFrom]
def wsX4_best_r5 : List Cond := [Cond.selects RX1 yX1_wayFrom yX1_wayFrom, Cond.code yX1_wayFrom cX1_wayFrom 3 (some .int), Cond.fieldLink RX1 23 "CreditGame$Graph" "out" "[[I", Cond.instanceMethod yX1_targetOf, Cond.selects RX1 yX1_targetOf yX1_targetOf, Cond.code yX1_targetOf cX1_targetOf 2 (some .int), Cond.fieldLink RX1 29 "CreditGame$Graph" "target" "[I", Cond.instanceMethod yX1_weightOf, Cond.selects RX1 yX1_weightOf yX1_weightOf, Cond.code yX1_weightOf cX1_weightOf 2 (some .int), Cond.fieldLink RX1 32 "CreditGame$Graph" "weight" "[I", Cond.code yX3_leastPay cX3_leastPay 11 (some .int), Cond.methodLink RX3 107 Lib.Math.min.name, Cond.static Lib.Math.min.name, Cond.code Lib.Math.min.name Lib.Math.min.code 2 (some .int), Cond.methodLink RX4 126 yX4_bestEdge, Cond.instanceMethod yX4_bestEdge, Cond.selects RX4 yX4_bestEdge yX4_bestEdge, Cond.code yX4_bestEdge cX4_bestEdge 5 (some .int), Cond.fieldLink RX4 30 "CreditGame" "credits" "LCreditGame$Credits;", Cond.instanceMethod yX3_topOf, Cond.selects RX3 yX3_topOf yX3_topOf, Cond.code yX3_topOf cX3_topOf 2 (some .int), Cond.methodLink RX3 49 yX3_partsOf]
def wsX4_best_r6 : List Cond := [Cond.instanceMethod yX3_partsOf, Cond.selects RX3 yX3_partsOf yX3_partsOf, Cond.code yX3_partsOf cX3_partsOf 2 (some .int), Cond.methodLink RX3 53 yX3_bottomOf, Cond.instanceMethod yX3_bottomOf, Cond.selects RX3 yX3_bottomOf yX3_bottomOf, Cond.code yX3_bottomOf cX3_bottomOf 3 (some .int), Cond.instanceMethod yX0_solve, Cond.initialized RX0, Cond.selects RX0 yX0_solve yX0_solve, Cond.code yX0_solve cX0_solve 8 none, Cond.fieldLink RX0 18 "CreditGame$Credits" "graph" "LCreditGame$Graph;", Cond.fieldLink RX0 15 "CreditGame$Credits" "gain" "[I", Cond.fieldLink RX0 9 "CreditGame$Credits" "need" "[I", Cond.fieldLink RX0 22 "CreditGame$Credits" "values" "LCreditGame$Values;", Cond.instanceMethod yX3_order, Cond.selects RX3 yX3_order yX3_order, Cond.code yX3_order cX3_order 4 (some .int), Cond.methodLink RX3 56 yJ6_compare_7cf53, Cond.static yJ6_compare_7cf53, Cond.initialized RJ6, Cond.code yJ6_compare_7cf53 cJ6_compare_7cf53 2 (some .int), Cond.methodLink RX0 38 yX0_isGoodFor, Cond.instanceMethod yX0_isGoodFor]
def wsX4_best_r7 : List Cond := [Cond.selects RX0 yX0_isGoodFor yX0_isGoodFor, Cond.code yX0_isGoodFor cX0_isGoodFor 3 (some .boolean), Cond.methodLink RX0 45 yX0_enoughAt, Cond.instanceMethod yX0_enoughAt, Cond.selects RX0 yX0_enoughAt yX0_enoughAt, Cond.code yX0_enoughAt cX0_enoughAt 8 (some .int), Cond.methodLink RX0 56 yX0_needBefore, Cond.instanceMethod yX0_needBefore, Cond.selects RX0 yX0_needBefore yX0_needBefore, Cond.code yX0_needBefore cX0_needBefore 3 (some .int), Cond.methodLink RX0 68 Lib.Math.max.name, Cond.methodLink RX0 62 yX0_needOf, Cond.instanceMethod yX0_needOf, Cond.selects RX0 yX0_needOf yX0_needOf, Cond.code yX0_needOf cX0_needOf 2 (some .int), Cond.methodLink RX0 65 yX0_gainOf, Cond.instanceMethod yX0_gainOf, Cond.selects RX0 yX0_gainOf yX0_gainOf, Cond.code yX0_gainOf cX0_gainOf 2 (some .int), Cond.instanceMethod yX0_allows, Cond.selects RX0 yX0_allows yX0_allows, Cond.code yX0_allows cX0_allows 4 (some .boolean)]
def wsX4_best : List Cond := .code yX4_best cX4_best 2 (some .int) :: ((wsX4_best_r1 ++ (wsX4_best_r2 ++ (wsX4_best_r3 ++ (wsX4_best_r4 ++ (wsX4_best_r5 ++ (wsX4_best_r6 ++ wsX4_best_r7)))))) ++ wsX40 ++ wsX10 ++ wsX30 ++ wsX20 ++ wsX00 ++ (vx_atS RX4 74 "java/lang/IllegalArgumentException" ["java/lang/RuntimeException", "java/lang/Exception"]).filter goodWord ++ (vx_atS RX4 57 "java/lang/IllegalStateException" ["java/lang/RuntimeException", "java/lang/Exception"]).filter goodWord)
def wsX4_chooseFor_r1 : List Cond := [Cond.fieldLink RX4 10 "CreditGame" "graph" "LCreditGame$Graph;", Cond.fieldLink RX4 41 "CreditGame" "chosen" "[I", Cond.instanceMethod yX1_hasVertex, Cond.initialized RX1, Cond.selects RX1 yX1_hasVertex yX1_hasVertex, Cond.code yX1_hasVertex cX1_hasVertex 2 (some .boolean), Cond.fieldLink RX1 35 "CreditGame$Graph" "vertexCount" "I", Cond.instanceMethod yX1_ownerOf, Cond.selects RX1 yX1_ownerOf yX1_ownerOf, Cond.code yX1_ownerOf cX1_ownerOf 2 (some .int), Cond.fieldLink RX1 9 "CreditGame$Graph" "owner" "[I", Cond.methodLink RX1 42 yX1_hasVertex, Cond.instanceMethod yX1_fixedOf, Cond.selects RX1 yX1_fixedOf yX1_fixedOf, Cond.code yX1_fixedOf cX1_fixedOf 2 (some .int), Cond.fieldLink RX1 15 "CreditGame$Graph" "fixedTo" "[I", Cond.methodLink RX4 126 yX4_bestEdge, Cond.instanceMethod yX4_bestEdge, Cond.selects RX4 yX4_bestEdge yX4_bestEdge, Cond.initialized RX4, Cond.code yX4_bestEdge cX4_bestEdge 5 (some .int), Cond.fieldLink RX4 30 "CreditGame" "credits" "LCreditGame$Credits;", Cond.fieldLink RX4 21 "CreditGame" "values" "LCreditGame$Values;", Cond.instanceMethod yX3_topOf]
def wsX4_chooseFor_r2 : List Cond := [Cond.initialized RX3, Cond.selects RX3 yX3_topOf yX3_topOf, Cond.code yX3_topOf cX3_topOf 2 (some .int), Cond.methodLink RX3 49 yX3_partsOf, Cond.instanceMethod yX3_partsOf, Cond.selects RX3 yX3_partsOf yX3_partsOf, Cond.code yX3_partsOf cX3_partsOf 2 (some .int), Cond.fieldLink RX3 26 "CreditGame$Values" "graph" "LCreditGame$Graph;", Cond.fieldLink RX3 22 "CreditGame$Values" "parts" "[I", Cond.methodLink RX3 53 yX3_bottomOf, Cond.instanceMethod yX3_bottomOf, Cond.selects RX3 yX3_bottomOf yX3_bottomOf, Cond.code yX3_bottomOf cX3_bottomOf 3 (some .int), Cond.instanceMethod yX0_solve, Cond.initialized RX0, Cond.selects RX0 yX0_solve yX0_solve, Cond.code yX0_solve cX0_solve 8 none, Cond.fieldLink RX0 18 "CreditGame$Credits" "graph" "LCreditGame$Graph;", Cond.fieldLink RX0 15 "CreditGame$Credits" "gain" "[I", Cond.fieldLink RX0 9 "CreditGame$Credits" "need" "[I", Cond.fieldLink RX0 22 "CreditGame$Credits" "values" "LCreditGame$Values;", Cond.instanceMethod yX1_weightOf, Cond.selects RX1 yX1_weightOf yX1_weightOf, Cond.code yX1_weightOf cX1_weightOf 2 (some .int)]
def wsX4_chooseFor_r3 : List Cond := [Cond.fieldLink RX1 32 "CreditGame$Graph" "weight" "[I", Cond.instanceMethod yX3_order, Cond.selects RX3 yX3_order yX3_order, Cond.code yX3_order cX3_order 4 (some .int), Cond.methodLink RX3 56 yJ6_compare_7cf53, Cond.static yJ6_compare_7cf53, Cond.initialized RJ6, Cond.code yJ6_compare_7cf53 cJ6_compare_7cf53 2 (some .int), Cond.methodLink RX0 38 yX0_isGoodFor, Cond.instanceMethod yX0_isGoodFor, Cond.selects RX0 yX0_isGoodFor yX0_isGoodFor, Cond.code yX0_isGoodFor cX0_isGoodFor 3 (some .boolean), Cond.methodLink RX0 45 yX0_enoughAt, Cond.instanceMethod yX0_enoughAt, Cond.selects RX0 yX0_enoughAt yX0_enoughAt, Cond.code yX0_enoughAt cX0_enoughAt 8 (some .int), Cond.instanceMethod yX1_waysFrom, Cond.selects RX1 yX1_waysFrom yX1_waysFrom, Cond.code yX1_waysFrom cX1_waysFrom 2 (some .int), Cond.fieldLink RX1 18 "CreditGame$Graph" "outCount" "[I", Cond.instanceMethod yX1_wayFrom, Cond.selects RX1 yX1_wayFrom yX1_wayFrom, Cond.code yX1_wayFrom cX1_wayFrom 3 (some .int), Cond.fieldLink RX1 23 "CreditGame$Graph" "out" "[[I"]
def wsX4_chooseFor_r4 : List Cond := [Cond.methodLink RX0 56 yX0_needBefore, Cond.instanceMethod yX0_needBefore, Cond.selects RX0 yX0_needBefore yX0_needBefore, Cond.code yX0_needBefore cX0_needBefore 3 (some .int), Cond.methodLink RX0 68 Lib.Math.max.name, Cond.static Lib.Math.max.name, Cond.initialized "java/lang/Math", Cond.code Lib.Math.max.name Lib.Math.max.code 2 (some .int), Cond.instanceMethod yX1_targetOf, Cond.selects RX1 yX1_targetOf yX1_targetOf, Cond.code yX1_targetOf cX1_targetOf 2 (some .int), Cond.fieldLink RX1 29 "CreditGame$Graph" "target" "[I", Cond.methodLink RX0 62 yX0_needOf, Cond.instanceMethod yX0_needOf, Cond.selects RX0 yX0_needOf yX0_needOf, Cond.code yX0_needOf cX0_needOf 2 (some .int), Cond.methodLink RX0 65 yX0_gainOf, Cond.instanceMethod yX0_gainOf, Cond.selects RX0 yX0_gainOf yX0_gainOf, Cond.code yX0_gainOf cX0_gainOf 2 (some .int), Cond.instanceMethod yX0_allows, Cond.selects RX0 yX0_allows yX0_allows, Cond.code yX0_allows cX0_allows 4 (some .boolean)]
def wsX4_chooseFor : List Cond := .code yX4_chooseFor cX4_chooseFor 4 none :: ((wsX4_chooseFor_r1 ++ (wsX4_chooseFor_r2 ++ (wsX4_chooseFor_r3 ++ wsX4_chooseFor_r4))) ++ wsX40 ++ wsX10 ++ wsX30 ++ wsX00)
def wsX4_fixChosen : List Cond := .code yX4_fixChosen cX4_fixChosen 3 (some .int) :: ([.fieldLink RX4 41 "CreditGame" "chosen" "[I", .fieldLink RX4 10 "CreditGame" "graph" "LCreditGame$Graph;", .instanceMethod yX1_setFixed, .initialized RX1, .selects RX1 yX1_setFixed yX1_setFixed, .code yX1_setFixed cX1_setFixed 3 none, .fieldLink RX1 15 "CreditGame$Graph" "fixedTo" "[I", .methodLink RX1 42 yX1_hasVertex, .instanceMethod yX1_hasVertex, .selects RX1 yX1_hasVertex yX1_hasVertex, .code yX1_hasVertex cX1_hasVertex 2 (some .boolean), .fieldLink RX1 35 "CreditGame$Graph" "vertexCount" "I"] ++ wsX40 ++ wsX10)
def wsX4_settle_r1 : List Cond := [Cond.fieldLink RX4 21 "CreditGame" "values" "LCreditGame$Values;", Cond.methodLink RX4 45 yX4_checkPlayer, Cond.instanceMethod yX4_checkPlayer, Cond.selects RX4 yX4_checkPlayer yX4_checkPlayer, Cond.initialized RX4, Cond.code yX4_checkPlayer cX4_checkPlayer 2 none, Cond.classLink RX4 70 "java/lang/IllegalArgumentException", Cond.initialized "java/lang/IllegalArgumentException", Cond.methodLink RX4 97 yX4_checkComplete, Cond.instanceMethod yX4_checkComplete, Cond.selects RX4 yX4_checkComplete yX4_checkComplete, Cond.code yX4_checkComplete cX4_checkComplete 1 none, Cond.classLink RX4 53 "java/lang/IllegalStateException", Cond.initialized "java/lang/IllegalStateException", Cond.fieldLink RX4 10 "CreditGame" "graph" "LCreditGame$Graph;", Cond.instanceMethod yX1_isComplete, Cond.initialized RX1, Cond.selects RX1 yX1_isComplete yX1_isComplete, Cond.code yX1_isComplete cX1_isComplete 2 (some .boolean), Cond.fieldLink RX1 35 "CreditGame$Graph" "vertexCount" "I", Cond.methodLink RX1 46 yX1_waysFrom, Cond.instanceMethod yX1_waysFrom, Cond.selects RX1 yX1_waysFrom yX1_waysFrom, Cond.code yX1_waysFrom cX1_waysFrom 2 (some .int)]
def wsX4_settle_r2 : List Cond := [Cond.fieldLink RX1 15 "CreditGame$Graph" "fixedTo" "[I", Cond.fieldLink RX1 18 "CreditGame$Graph" "outCount" "[I", Cond.methodLink RX1 42 yX1_hasVertex, Cond.instanceMethod yX1_hasVertex, Cond.selects RX1 yX1_hasVertex yX1_hasVertex, Cond.code yX1_hasVertex cX1_hasVertex 2 (some .boolean), Cond.instanceMethod yX3_findAll, Cond.initialized RX3, Cond.selects RX3 yX3_findAll yX3_findAll, Cond.code yX3_findAll cX3_findAll 2 none, Cond.methodLink RX3 30 yX3_find, Cond.instanceMethod yX3_find, Cond.selects RX3 yX3_find yX3_find, Cond.code yX3_find cX3_find 2 none, Cond.fieldLink RX3 26 "CreditGame$Values" "graph" "LCreditGame$Graph;", Cond.fieldLink RX3 18 "CreditGame$Values" "known" "[Z", Cond.fieldLink RX3 12 "CreditGame$Values" "path" "LCreditGame$Path;", Cond.fieldLink RX3 22 "CreditGame$Values" "parts" "[I", Cond.constant RX3 43 (-1000000), Cond.constant RX3 44 (1000000), Cond.instanceMethod yX2_clear, Cond.initialized RX2, Cond.selects RX2 yX2_clear yX2_clear, Cond.code yX2_clear cX2_clear 1 none]
def wsX4_settle_r3 : List Cond := [Cond.fieldLink RX2 9 "CreditGame$Path" "steps" "[I", Cond.methodLink RX2 18 yJ7_fill_53178, Cond.static yJ7_fill_53178, Cond.initialized RJ7, Cond.code yJ7_fill_53178 cJ7_fill_53178 4 none, Cond.methodLink RX3 45 yX3_playAt, Cond.instanceMethod yX3_playAt, Cond.selects RX3 yX3_playAt yX3_playAt, Cond.code yX3_playAt cX3_playAt 7 (some .int), Cond.instanceMethod yX2_has, Cond.selects RX2 yX2_has yX2_has, Cond.code yX2_has cX2_has 2 (some .boolean), Cond.methodLink RX2 24 yX2_isPlace, Cond.instanceMethod yX2_isPlace, Cond.selects RX2 yX2_isPlace yX2_isPlace, Cond.code yX2_isPlace cX2_isPlace 2 (some .boolean), Cond.instanceMethod yX2_stepsTo, Cond.selects RX2 yX2_stepsTo yX2_stepsTo, Cond.code yX2_stepsTo cX2_stepsTo 2 (some .int), Cond.instanceMethod yX2_sumTo, Cond.selects RX2 yX2_sumTo yX2_sumTo, Cond.code yX2_sumTo cX2_sumTo 2 (some .int), Cond.fieldLink RX2 15 "CreditGame$Path" "sums" "[I", Cond.methodLink RX3 71 yX3_loopParts]
def wsX4_settle_r4 : List Cond := [Cond.static yX3_loopParts, Cond.code yX3_loopParts cX3_loopParts 2 (some .int), Cond.instanceMethod yX2_enter, Cond.selects RX2 yX2_enter yX2_enter, Cond.code yX2_enter cX2_enter 4 none, Cond.instanceMethod yX1_ownerOf, Cond.selects RX1 yX1_ownerOf yX1_ownerOf, Cond.code yX1_ownerOf cX1_ownerOf 2 (some .int), Cond.fieldLink RX1 9 "CreditGame$Graph" "owner" "[I", Cond.methodLink RX3 81 yX3_greatestPay, Cond.instanceMethod yX3_greatestPay, Cond.selects RX3 yX3_greatestPay yX3_greatestPay, Cond.methodLink RX3 84 yX3_leastPay, Cond.instanceMethod yX3_leastPay, Cond.selects RX3 yX3_leastPay yX3_leastPay, Cond.instanceMethod yX2_leave, Cond.selects RX2 yX2_leave yX2_leave, Cond.code yX2_leave cX2_leave 2 none, Cond.code yX3_greatestPay cX3_greatestPay 11 (some .int), Cond.methodLink RX3 102 Lib.Math.max.name, Cond.static Lib.Math.max.name, Cond.initialized "java/lang/Math", Cond.code Lib.Math.max.name Lib.Math.max.code 2 (some .int), Cond.instanceMethod yX1_wayFrom]
def wsX4_settle_r5 : List Cond := [Cond.selects RX1 yX1_wayFrom yX1_wayFrom, Cond.code yX1_wayFrom cX1_wayFrom 3 (some .int), Cond.fieldLink RX1 23 "CreditGame$Graph" "out" "[[I", Cond.instanceMethod yX1_targetOf, Cond.selects RX1 yX1_targetOf yX1_targetOf, Cond.code yX1_targetOf cX1_targetOf 2 (some .int), Cond.fieldLink RX1 29 "CreditGame$Graph" "target" "[I", Cond.instanceMethod yX1_weightOf, Cond.selects RX1 yX1_weightOf yX1_weightOf, Cond.code yX1_weightOf cX1_weightOf 2 (some .int), Cond.fieldLink RX1 32 "CreditGame$Graph" "weight" "[I", Cond.code yX3_leastPay cX3_leastPay 11 (some .int), Cond.methodLink RX3 107 Lib.Math.min.name, Cond.static Lib.Math.min.name, Cond.code Lib.Math.min.name Lib.Math.min.code 2 (some .int), Cond.methodLink RX4 129 yX4_chooseFor, Cond.instanceMethod yX4_chooseFor, Cond.selects RX4 yX4_chooseFor yX4_chooseFor, Cond.code yX4_chooseFor cX4_chooseFor 4 none, Cond.fieldLink RX4 41 "CreditGame" "chosen" "[I", Cond.instanceMethod yX1_fixedOf, Cond.selects RX1 yX1_fixedOf yX1_fixedOf, Cond.code yX1_fixedOf cX1_fixedOf 2 (some .int), Cond.methodLink RX4 126 yX4_bestEdge]
def wsX4_settle_r6 : List Cond := [Cond.instanceMethod yX4_bestEdge, Cond.selects RX4 yX4_bestEdge yX4_bestEdge, Cond.code yX4_bestEdge cX4_bestEdge 5 (some .int), Cond.fieldLink RX4 30 "CreditGame" "credits" "LCreditGame$Credits;", Cond.instanceMethod yX3_topOf, Cond.selects RX3 yX3_topOf yX3_topOf, Cond.code yX3_topOf cX3_topOf 2 (some .int), Cond.methodLink RX3 49 yX3_partsOf, Cond.instanceMethod yX3_partsOf, Cond.selects RX3 yX3_partsOf yX3_partsOf, Cond.code yX3_partsOf cX3_partsOf 2 (some .int), Cond.methodLink RX3 53 yX3_bottomOf, Cond.instanceMethod yX3_bottomOf, Cond.selects RX3 yX3_bottomOf yX3_bottomOf, Cond.code yX3_bottomOf cX3_bottomOf 3 (some .int), Cond.instanceMethod yX0_solve, Cond.initialized RX0, Cond.selects RX0 yX0_solve yX0_solve, Cond.code yX0_solve cX0_solve 8 none, Cond.fieldLink RX0 18 "CreditGame$Credits" "graph" "LCreditGame$Graph;", Cond.fieldLink RX0 15 "CreditGame$Credits" "gain" "[I", Cond.fieldLink RX0 9 "CreditGame$Credits" "need" "[I", Cond.fieldLink RX0 22 "CreditGame$Credits" "values" "LCreditGame$Values;", Cond.instanceMethod yX3_order]
def wsX4_settle_r7 : List Cond := [Cond.selects RX3 yX3_order yX3_order, Cond.code yX3_order cX3_order 4 (some .int), Cond.methodLink RX3 56 yJ6_compare_7cf53, Cond.static yJ6_compare_7cf53, Cond.initialized RJ6, Cond.code yJ6_compare_7cf53 cJ6_compare_7cf53 2 (some .int), Cond.methodLink RX0 38 yX0_isGoodFor, Cond.instanceMethod yX0_isGoodFor, Cond.selects RX0 yX0_isGoodFor yX0_isGoodFor, Cond.code yX0_isGoodFor cX0_isGoodFor 3 (some .boolean), Cond.methodLink RX0 45 yX0_enoughAt, Cond.instanceMethod yX0_enoughAt, Cond.selects RX0 yX0_enoughAt yX0_enoughAt, Cond.code yX0_enoughAt cX0_enoughAt 8 (some .int), Cond.methodLink RX0 56 yX0_needBefore, Cond.instanceMethod yX0_needBefore, Cond.selects RX0 yX0_needBefore yX0_needBefore, Cond.code yX0_needBefore cX0_needBefore 3 (some .int), Cond.methodLink RX0 68 Lib.Math.max.name, Cond.methodLink RX0 62 yX0_needOf, Cond.instanceMethod yX0_needOf, Cond.selects RX0 yX0_needOf yX0_needOf, Cond.code yX0_needOf cX0_needOf 2 (some .int), Cond.methodLink RX0 65 yX0_gainOf]
def wsX4_settle_r8 : List Cond := [Cond.instanceMethod yX0_gainOf, Cond.selects RX0 yX0_gainOf yX0_gainOf, Cond.code yX0_gainOf cX0_gainOf 2 (some .int), Cond.instanceMethod yX0_allows, Cond.selects RX0 yX0_allows yX0_allows, Cond.code yX0_allows cX0_allows 4 (some .boolean), Cond.instanceMethod yX3_forget, Cond.selects RX3 yX3_forget yX3_forget, Cond.code yX3_forget cX3_forget 2 none, Cond.methodLink RX4 132 yX4_fixChosen, Cond.instanceMethod yX4_fixChosen, Cond.selects RX4 yX4_fixChosen yX4_fixChosen, Cond.code yX4_fixChosen cX4_fixChosen 3 (some .int), Cond.instanceMethod yX1_setFixed, Cond.selects RX1 yX1_setFixed yX1_setFixed, Cond.code yX1_setFixed cX1_setFixed 3 none]
def wsX4_settle : List Cond := .code yX4_settle cX4_settle 2 (some .int) :: ((wsX4_settle_r1 ++ (wsX4_settle_r2 ++ (wsX4_settle_r3 ++ (wsX4_settle_r4 ++ (wsX4_settle_r5 ++ (wsX4_settle_r6 ++ (wsX4_settle_r7 ++ wsX4_settle_r8))))))) ++ wsX40 ++ wsX10 ++ wsX30 ++ wsX20 ++ wsX00 ++ (vx_atS RX4 74 "java/lang/IllegalArgumentException" ["java/lang/RuntimeException", "java/lang/Exception"]).filter goodWord ++ (vx_atS RX4 57 "java/lang/IllegalStateException" ["java/lang/RuntimeException", "java/lang/Exception"]).filter goodWord)
def wsX4_tellWalk_r1 : List Cond := [Cond.fieldLink RX4 37 "CreditGame" "walked" "LCreditGame$Path;", Cond.fieldLink RX4 10 "CreditGame" "graph" "LCreditGame$Graph;", Cond.instanceMethod yX2_clear, Cond.initialized RX2, Cond.selects RX2 yX2_clear yX2_clear, Cond.code yX2_clear cX2_clear 1 none, Cond.fieldLink RX2 9 "CreditGame$Path" "steps" "[I", Cond.methodLink RX2 18 yJ7_fill_53178, Cond.static yJ7_fill_53178, Cond.initialized RJ7, Cond.code yJ7_fill_53178 cJ7_fill_53178 4 none, Cond.instanceMethod yX2_has, Cond.selects RX2 yX2_has yX2_has, Cond.code yX2_has cX2_has 2 (some .boolean), Cond.methodLink RX2 24 yX2_isPlace, Cond.instanceMethod yX2_isPlace, Cond.selects RX2 yX2_isPlace yX2_isPlace, Cond.code yX2_isPlace cX2_isPlace 2 (some .boolean), Cond.instanceMethod yX2_enter, Cond.selects RX2 yX2_enter yX2_enter, Cond.code yX2_enter cX2_enter 4 none, Cond.fieldLink RX2 15 "CreditGame$Path" "sums" "[I", Cond.methodLink RX4 126 yX4_bestEdge, Cond.instanceMethod yX4_bestEdge]
def wsX4_tellWalk_r2 : List Cond := [Cond.selects RX4 yX4_bestEdge yX4_bestEdge, Cond.initialized RX4, Cond.code yX4_bestEdge cX4_bestEdge 5 (some .int), Cond.fieldLink RX4 30 "CreditGame" "credits" "LCreditGame$Credits;", Cond.fieldLink RX4 21 "CreditGame" "values" "LCreditGame$Values;", Cond.instanceMethod yX1_ownerOf, Cond.initialized RX1, Cond.selects RX1 yX1_ownerOf yX1_ownerOf, Cond.code yX1_ownerOf cX1_ownerOf 2 (some .int), Cond.fieldLink RX1 9 "CreditGame$Graph" "owner" "[I", Cond.methodLink RX1 42 yX1_hasVertex, Cond.instanceMethod yX1_hasVertex, Cond.selects RX1 yX1_hasVertex yX1_hasVertex, Cond.code yX1_hasVertex cX1_hasVertex 2 (some .boolean), Cond.fieldLink RX1 35 "CreditGame$Graph" "vertexCount" "I", Cond.instanceMethod yX3_topOf, Cond.initialized RX3, Cond.selects RX3 yX3_topOf yX3_topOf, Cond.code yX3_topOf cX3_topOf 2 (some .int), Cond.methodLink RX3 49 yX3_partsOf, Cond.instanceMethod yX3_partsOf, Cond.selects RX3 yX3_partsOf yX3_partsOf, Cond.code yX3_partsOf cX3_partsOf 2 (some .int), Cond.fieldLink RX3 26 "CreditGame$Values" "graph" "LCreditGame$Graph;"]
def wsX4_tellWalk_r3 : List Cond := [Cond.fieldLink RX3 22 "CreditGame$Values" "parts" "[I", Cond.methodLink RX3 53 yX3_bottomOf, Cond.instanceMethod yX3_bottomOf, Cond.selects RX3 yX3_bottomOf yX3_bottomOf, Cond.code yX3_bottomOf cX3_bottomOf 3 (some .int), Cond.instanceMethod yX0_solve, Cond.initialized RX0, Cond.selects RX0 yX0_solve yX0_solve, Cond.code yX0_solve cX0_solve 8 none, Cond.fieldLink RX0 18 "CreditGame$Credits" "graph" "LCreditGame$Graph;", Cond.fieldLink RX0 15 "CreditGame$Credits" "gain" "[I", Cond.fieldLink RX0 9 "CreditGame$Credits" "need" "[I", Cond.fieldLink RX0 22 "CreditGame$Credits" "values" "LCreditGame$Values;", Cond.instanceMethod yX1_weightOf, Cond.selects RX1 yX1_weightOf yX1_weightOf, Cond.code yX1_weightOf cX1_weightOf 2 (some .int), Cond.fieldLink RX1 32 "CreditGame$Graph" "weight" "[I", Cond.instanceMethod yX3_order, Cond.selects RX3 yX3_order yX3_order, Cond.code yX3_order cX3_order 4 (some .int), Cond.methodLink RX3 56 yJ6_compare_7cf53, Cond.static yJ6_compare_7cf53, Cond.initialized RJ6, Cond.code yJ6_compare_7cf53 cJ6_compare_7cf53 2 (some .int)]
def wsX4_tellWalk_r4 : List Cond := [Cond.methodLink RX0 38 yX0_isGoodFor, Cond.instanceMethod yX0_isGoodFor, Cond.selects RX0 yX0_isGoodFor yX0_isGoodFor, Cond.code yX0_isGoodFor cX0_isGoodFor 3 (some .boolean), Cond.methodLink RX0 45 yX0_enoughAt, Cond.instanceMethod yX0_enoughAt, Cond.selects RX0 yX0_enoughAt yX0_enoughAt, Cond.code yX0_enoughAt cX0_enoughAt 8 (some .int), Cond.instanceMethod yX1_waysFrom, Cond.selects RX1 yX1_waysFrom yX1_waysFrom, Cond.code yX1_waysFrom cX1_waysFrom 2 (some .int), Cond.fieldLink RX1 15 "CreditGame$Graph" "fixedTo" "[I", Cond.fieldLink RX1 18 "CreditGame$Graph" "outCount" "[I", Cond.instanceMethod yX1_wayFrom, Cond.selects RX1 yX1_wayFrom yX1_wayFrom, Cond.code yX1_wayFrom cX1_wayFrom 3 (some .int), Cond.fieldLink RX1 23 "CreditGame$Graph" "out" "[[I", Cond.methodLink RX0 56 yX0_needBefore, Cond.instanceMethod yX0_needBefore, Cond.selects RX0 yX0_needBefore yX0_needBefore, Cond.code yX0_needBefore cX0_needBefore 3 (some .int), Cond.methodLink RX0 68 Lib.Math.max.name, Cond.static Lib.Math.max.name, Cond.initialized "java/lang/Math"]
def wsX4_tellWalk_r5 : List Cond := [Cond.code Lib.Math.max.name Lib.Math.max.code 2 (some .int), Cond.instanceMethod yX1_targetOf, Cond.selects RX1 yX1_targetOf yX1_targetOf, Cond.code yX1_targetOf cX1_targetOf 2 (some .int), Cond.fieldLink RX1 29 "CreditGame$Graph" "target" "[I", Cond.methodLink RX0 62 yX0_needOf, Cond.instanceMethod yX0_needOf, Cond.selects RX0 yX0_needOf yX0_needOf, Cond.code yX0_needOf cX0_needOf 2 (some .int), Cond.methodLink RX0 65 yX0_gainOf, Cond.instanceMethod yX0_gainOf, Cond.selects RX0 yX0_gainOf yX0_gainOf, Cond.code yX0_gainOf cX0_gainOf 2 (some .int), Cond.instanceMethod yX0_allows, Cond.selects RX0 yX0_allows yX0_allows, Cond.code yX0_allows cX0_allows 4 (some .boolean), Cond.instanceMethod yX2_stepsTo, Cond.selects RX2 yX2_stepsTo yX2_stepsTo, Cond.code yX2_stepsTo cX2_stepsTo 2 (some .int), Cond.instanceMethod yX2_sumTo, Cond.selects RX2 yX2_sumTo yX2_sumTo, Cond.code yX2_sumTo cX2_sumTo 2 (some .int)]
def wsX4_tellWalk : List Cond := .code yX4_tellWalk cX4_tellWalk 7 (some .int) :: ((wsX4_tellWalk_r1 ++ (wsX4_tellWalk_r2 ++ (wsX4_tellWalk_r3 ++ (wsX4_tellWalk_r4 ++ wsX4_tellWalk_r5)))) ++ wsX40 ++ wsX20 ++ wsX10 ++ wsX30 ++ wsX00)
def wsX4_walk_r1 : List Cond := [Cond.classLink RX4 70 "java/lang/IllegalArgumentException", Cond.initialized "java/lang/IllegalArgumentException", Cond.fieldLink RX4 21 "CreditGame" "values" "LCreditGame$Values;", Cond.methodLink RX4 67 yX4_checkVertex, Cond.instanceMethod yX4_checkVertex, Cond.selects RX4 yX4_checkVertex yX4_checkVertex, Cond.initialized RX4, Cond.code yX4_checkVertex cX4_checkVertex 2 none, Cond.fieldLink RX4 10 "CreditGame" "graph" "LCreditGame$Graph;", Cond.instanceMethod yX1_hasVertex, Cond.initialized RX1, Cond.selects RX1 yX1_hasVertex yX1_hasVertex, Cond.code yX1_hasVertex cX1_hasVertex 2 (some .boolean), Cond.fieldLink RX1 35 "CreditGame$Graph" "vertexCount" "I", Cond.methodLink RX4 97 yX4_checkComplete, Cond.instanceMethod yX4_checkComplete, Cond.selects RX4 yX4_checkComplete yX4_checkComplete, Cond.code yX4_checkComplete cX4_checkComplete 1 none, Cond.classLink RX4 53 "java/lang/IllegalStateException", Cond.initialized "java/lang/IllegalStateException", Cond.instanceMethod yX1_isComplete, Cond.selects RX1 yX1_isComplete yX1_isComplete, Cond.code yX1_isComplete cX1_isComplete 2 (some .boolean), Cond.methodLink RX1 46 yX1_waysFrom]
def wsX4_walk_r2 : List Cond := [Cond.instanceMethod yX1_waysFrom, Cond.selects RX1 yX1_waysFrom yX1_waysFrom, Cond.code yX1_waysFrom cX1_waysFrom 2 (some .int), Cond.fieldLink RX1 15 "CreditGame$Graph" "fixedTo" "[I", Cond.fieldLink RX1 18 "CreditGame$Graph" "outCount" "[I", Cond.methodLink RX1 42 yX1_hasVertex, Cond.instanceMethod yX3_findAll, Cond.initialized RX3, Cond.selects RX3 yX3_findAll yX3_findAll, Cond.code yX3_findAll cX3_findAll 2 none, Cond.methodLink RX3 30 yX3_find, Cond.instanceMethod yX3_find, Cond.selects RX3 yX3_find yX3_find, Cond.code yX3_find cX3_find 2 none, Cond.fieldLink RX3 26 "CreditGame$Values" "graph" "LCreditGame$Graph;", Cond.fieldLink RX3 18 "CreditGame$Values" "known" "[Z", Cond.fieldLink RX3 12 "CreditGame$Values" "path" "LCreditGame$Path;", Cond.fieldLink RX3 22 "CreditGame$Values" "parts" "[I", Cond.constant RX3 43 (-1000000), Cond.constant RX3 44 (1000000), Cond.instanceMethod yX2_clear, Cond.initialized RX2, Cond.selects RX2 yX2_clear yX2_clear, Cond.code yX2_clear cX2_clear 1 none]
def wsX4_walk_r3 : List Cond := [Cond.fieldLink RX2 9 "CreditGame$Path" "steps" "[I", Cond.methodLink RX2 18 yJ7_fill_53178, Cond.static yJ7_fill_53178, Cond.initialized RJ7, Cond.code yJ7_fill_53178 cJ7_fill_53178 4 none, Cond.methodLink RX3 45 yX3_playAt, Cond.instanceMethod yX3_playAt, Cond.selects RX3 yX3_playAt yX3_playAt, Cond.code yX3_playAt cX3_playAt 7 (some .int), Cond.instanceMethod yX2_has, Cond.selects RX2 yX2_has yX2_has, Cond.code yX2_has cX2_has 2 (some .boolean), Cond.methodLink RX2 24 yX2_isPlace, Cond.instanceMethod yX2_isPlace, Cond.selects RX2 yX2_isPlace yX2_isPlace, Cond.code yX2_isPlace cX2_isPlace 2 (some .boolean), Cond.instanceMethod yX2_stepsTo, Cond.selects RX2 yX2_stepsTo yX2_stepsTo, Cond.code yX2_stepsTo cX2_stepsTo 2 (some .int), Cond.instanceMethod yX2_sumTo, Cond.selects RX2 yX2_sumTo yX2_sumTo, Cond.code yX2_sumTo cX2_sumTo 2 (some .int), Cond.fieldLink RX2 15 "CreditGame$Path" "sums" "[I", Cond.methodLink RX3 71 yX3_loopParts]
def wsX4_walk_r4 : List Cond := [Cond.static yX3_loopParts, Cond.code yX3_loopParts cX3_loopParts 2 (some .int), Cond.instanceMethod yX2_enter, Cond.selects RX2 yX2_enter yX2_enter, Cond.code yX2_enter cX2_enter 4 none, Cond.instanceMethod yX1_ownerOf, Cond.selects RX1 yX1_ownerOf yX1_ownerOf, Cond.code yX1_ownerOf cX1_ownerOf 2 (some .int), Cond.fieldLink RX1 9 "CreditGame$Graph" "owner" "[I", Cond.methodLink RX3 81 yX3_greatestPay, Cond.instanceMethod yX3_greatestPay, Cond.selects RX3 yX3_greatestPay yX3_greatestPay, Cond.methodLink RX3 84 yX3_leastPay, Cond.instanceMethod yX3_leastPay, Cond.selects RX3 yX3_leastPay yX3_leastPay, Cond.instanceMethod yX2_leave, Cond.selects RX2 yX2_leave yX2_leave, Cond.code yX2_leave cX2_leave 2 none, Cond.code yX3_greatestPay cX3_greatestPay 11 (some .int), Cond.methodLink RX3 102 Lib.Math.max.name, Cond.static Lib.Math.max.name, Cond.initialized "java/lang/Math", Cond.code Lib.Math.max.name Lib.Math.max.code 2 (some .int), Cond.instanceMethod yX1_wayFrom]
def wsX4_walk_r5 : List Cond := [Cond.selects RX1 yX1_wayFrom yX1_wayFrom, Cond.code yX1_wayFrom cX1_wayFrom 3 (some .int), Cond.fieldLink RX1 23 "CreditGame$Graph" "out" "[[I", Cond.instanceMethod yX1_targetOf, Cond.selects RX1 yX1_targetOf yX1_targetOf, Cond.code yX1_targetOf cX1_targetOf 2 (some .int), Cond.fieldLink RX1 29 "CreditGame$Graph" "target" "[I", Cond.instanceMethod yX1_weightOf, Cond.selects RX1 yX1_weightOf yX1_weightOf, Cond.code yX1_weightOf cX1_weightOf 2 (some .int), Cond.fieldLink RX1 32 "CreditGame$Graph" "weight" "[I", Cond.code yX3_leastPay cX3_leastPay 11 (some .int), Cond.methodLink RX3 107 Lib.Math.min.name, Cond.static Lib.Math.min.name, Cond.code Lib.Math.min.name Lib.Math.min.code 2 (some .int), Cond.methodLink RX4 138 yX4_tellWalk, Cond.instanceMethod yX4_tellWalk, Cond.selects RX4 yX4_tellWalk yX4_tellWalk, Cond.code yX4_tellWalk cX4_tellWalk 7 (some .int), Cond.fieldLink RX4 37 "CreditGame" "walked" "LCreditGame$Path;", Cond.methodLink RX4 126 yX4_bestEdge, Cond.instanceMethod yX4_bestEdge, Cond.selects RX4 yX4_bestEdge yX4_bestEdge, Cond.code yX4_bestEdge cX4_bestEdge 5 (some .int)]
def wsX4_walk_r6 : List Cond := [Cond.fieldLink RX4 30 "CreditGame" "credits" "LCreditGame$Credits;", Cond.instanceMethod yX3_topOf, Cond.selects RX3 yX3_topOf yX3_topOf, Cond.code yX3_topOf cX3_topOf 2 (some .int), Cond.methodLink RX3 49 yX3_partsOf, Cond.instanceMethod yX3_partsOf, Cond.selects RX3 yX3_partsOf yX3_partsOf, Cond.code yX3_partsOf cX3_partsOf 2 (some .int), Cond.methodLink RX3 53 yX3_bottomOf, Cond.instanceMethod yX3_bottomOf, Cond.selects RX3 yX3_bottomOf yX3_bottomOf, Cond.code yX3_bottomOf cX3_bottomOf 3 (some .int), Cond.instanceMethod yX0_solve, Cond.initialized RX0, Cond.selects RX0 yX0_solve yX0_solve, Cond.code yX0_solve cX0_solve 8 none, Cond.fieldLink RX0 18 "CreditGame$Credits" "graph" "LCreditGame$Graph;", Cond.fieldLink RX0 15 "CreditGame$Credits" "gain" "[I", Cond.fieldLink RX0 9 "CreditGame$Credits" "need" "[I", Cond.fieldLink RX0 22 "CreditGame$Credits" "values" "LCreditGame$Values;", Cond.instanceMethod yX3_order, Cond.selects RX3 yX3_order yX3_order, Cond.code yX3_order cX3_order 4 (some .int), Cond.methodLink RX3 56 yJ6_compare_7cf53]
def wsX4_walk_r7 : List Cond := [Cond.static yJ6_compare_7cf53, Cond.initialized RJ6, Cond.code yJ6_compare_7cf53 cJ6_compare_7cf53 2 (some .int), Cond.methodLink RX0 38 yX0_isGoodFor, Cond.instanceMethod yX0_isGoodFor, Cond.selects RX0 yX0_isGoodFor yX0_isGoodFor, Cond.code yX0_isGoodFor cX0_isGoodFor 3 (some .boolean), Cond.methodLink RX0 45 yX0_enoughAt, Cond.instanceMethod yX0_enoughAt, Cond.selects RX0 yX0_enoughAt yX0_enoughAt, Cond.code yX0_enoughAt cX0_enoughAt 8 (some .int), Cond.methodLink RX0 56 yX0_needBefore, Cond.instanceMethod yX0_needBefore, Cond.selects RX0 yX0_needBefore yX0_needBefore, Cond.code yX0_needBefore cX0_needBefore 3 (some .int), Cond.methodLink RX0 68 Lib.Math.max.name, Cond.methodLink RX0 62 yX0_needOf, Cond.instanceMethod yX0_needOf, Cond.selects RX0 yX0_needOf yX0_needOf, Cond.code yX0_needOf cX0_needOf 2 (some .int), Cond.methodLink RX0 65 yX0_gainOf, Cond.instanceMethod yX0_gainOf, Cond.selects RX0 yX0_gainOf yX0_gainOf, Cond.code yX0_gainOf cX0_gainOf 2 (some .int)]
def wsX4_walk_r8 : List Cond := [Cond.instanceMethod yX0_allows, Cond.selects RX0 yX0_allows yX0_allows, Cond.code yX0_allows cX0_allows 4 (some .boolean)]
def wsX4_walk : List Cond := .code yX4_walk cX4_walk 3 (some .int) :: ((wsX4_walk_r1 ++ (wsX4_walk_r2 ++ (wsX4_walk_r3 ++ (wsX4_walk_r4 ++ (wsX4_walk_r5 ++ (wsX4_walk_r6 ++ (wsX4_walk_r7 ++ wsX4_walk_r8))))))) ++ wsX40 ++ wsX10 ++ wsX30 ++ wsX20 ++ wsX00 ++ (vx_atS RX4 74 "java/lang/IllegalArgumentException" ["java/lang/RuntimeException", "java/lang/Exception"]).filter goodWord ++ (vx_atS RX4 57 "java/lang/IllegalStateException" ["java/lang/RuntimeException", "java/lang/Exception"]).filter goodWord)
def wsX5_init : List Cond := .code yX5_init cX5_init 1 none :: ([.methodLink RX5 1 objectInit, .instanceMethod objectInit, .code objectInit ⟨#[0xb1]⟩ 1 none, .arrayClass .int, .fieldLink RX5 7 "CreditGameModel" "player" "[I", .fieldLink RX5 13 "CreditGameModel" "fixedTo" "[I", .fieldLink RX5 16 "CreditGameModel" "from" "[I", .fieldLink RX5 19 "CreditGameModel" "to" "[I", .fieldLink RX5 22 "CreditGameModel" "weight" "[I", .fieldLink RX5 25 "CreditGameModel" "above" "[I", .fieldLink RX5 28 "CreditGameModel" "below" "[I", .arrayClass .long, .fieldLink RX5 31 "CreditGameModel" "now" "[J", .fieldLink RX5 35 "CreditGameModel" "then" "[J", .fieldLink RX5 38 "CreditGameModel" "needs" "[I", .fieldLink RX5 41 "CreditGameModel" "more" "[I", .fieldLink RX5 44 "CreditGameModel" "chosen" "[I"] ++ wsX50)
def wsX5_thrown : List Cond := .code yX5_thrown cX5_thrown 1 (some .int) :: ([.fieldLink RX5 47 "CreditGameModel" "thrown" "I"] ++ wsX50)
def wsX5_isVertex : List Cond := .code yX5_isVertex cX5_isVertex 2 (some .boolean) :: ([.fieldLink RX5 51 "CreditGameModel" "vertices" "I"] ++ wsX50)
def wsX5_leads : List Cond := .code yX5_leads cX5_leads 3 (some .boolean) :: ([.fieldLink RX5 16 "CreditGameModel" "from" "[I", .fieldLink RX5 13 "CreditGameModel" "fixedTo" "[I"] ++ wsX50)
def wsX5_isComplete : List Cond := .code yX5_isComplete cX5_isComplete 4 (some .boolean) :: ([.fieldLink RX5 51 "CreditGameModel" "vertices" "I", .fieldLink RX5 54 "CreditGameModel" "edges" "I", .methodLink RX5 57 yX5_leads, .instanceMethod yX5_leads, .selects RX5 yX5_leads yX5_leads, .initialized RX5, .code yX5_leads cX5_leads 3 (some .boolean), .fieldLink RX5 16 "CreditGameModel" "from" "[I", .fieldLink RX5 13 "CreditGameModel" "fixedTo" "[I"] ++ wsX50)
def wsX5_vertex : List Cond := .code yX5_vertex cX5_vertex 2 (some .int) :: ([.fieldLink RX5 51 "CreditGameModel" "vertices" "I", .fieldLink RX5 47 "CreditGameModel" "thrown" "I", .fieldLink RX5 7 "CreditGameModel" "player" "[I", .fieldLink RX5 13 "CreditGameModel" "fixedTo" "[I", .fieldLink RX5 61 "CreditGameModel" "known" "Z"] ++ wsX50)
def wsX5_edge : List Cond := .code yX5_edge cX5_edge 4 (some .int) :: ([.fieldLink RX5 54 "CreditGameModel" "edges" "I", .fieldLink RX5 47 "CreditGameModel" "thrown" "I", .fieldLink RX5 16 "CreditGameModel" "from" "[I", .fieldLink RX5 19 "CreditGameModel" "to" "[I", .fieldLink RX5 22 "CreditGameModel" "weight" "[I", .fieldLink RX5 61 "CreditGameModel" "known" "Z", .methodLink RX5 65 yX5_isVertex, .instanceMethod yX5_isVertex, .selects RX5 yX5_isVertex yX5_isVertex, .initialized RX5, .code yX5_isVertex cX5_isVertex 2 (some .boolean), .fieldLink RX5 51 "CreditGameModel" "vertices" "I"] ++ wsX50)
def wsX5_fix : List Cond := .code yX5_fix cX5_fix 3 none :: ([.fieldLink RX5 54 "CreditGameModel" "edges" "I", .fieldLink RX5 16 "CreditGameModel" "from" "[I", .fieldLink RX5 47 "CreditGameModel" "thrown" "I", .fieldLink RX5 13 "CreditGameModel" "fixedTo" "[I", .fieldLink RX5 61 "CreditGameModel" "known" "Z", .methodLink RX5 65 yX5_isVertex, .instanceMethod yX5_isVertex, .selects RX5 yX5_isVertex yX5_isVertex, .initialized RX5, .code yX5_isVertex cX5_isVertex 2 (some .boolean), .fieldLink RX5 51 "CreditGameModel" "vertices" "I"] ++ wsX50)
def wsX5_fixed : List Cond := .code yX5_fixed cX5_fixed 2 (some .int) :: ([.fieldLink RX5 47 "CreditGameModel" "thrown" "I", .fieldLink RX5 13 "CreditGameModel" "fixedTo" "[I", .methodLink RX5 65 yX5_isVertex, .instanceMethod yX5_isVertex, .selects RX5 yX5_isVertex yX5_isVertex, .initialized RX5, .code yX5_isVertex cX5_isVertex 2 (some .boolean), .fieldLink RX5 51 "CreditGameModel" "vertices" "I"] ++ wsX50)
def wsX5_refuses : List Cond := .code yX5_refuses cX5_refuses 2 (some .boolean) :: ([.fieldLink RX5 47 "CreditGameModel" "thrown" "I", .methodLink RX5 65 yX5_isVertex, .instanceMethod yX5_isVertex, .selects RX5 yX5_isVertex yX5_isVertex, .initialized RX5, .code yX5_isVertex cX5_isVertex 2 (some .boolean), .fieldLink RX5 51 "CreditGameModel" "vertices" "I", .methodLink RX5 69 yX5_isComplete, .instanceMethod yX5_isComplete, .selects RX5 yX5_isComplete yX5_isComplete, .code yX5_isComplete cX5_isComplete 4 (some .boolean), .fieldLink RX5 54 "CreditGameModel" "edges" "I", .methodLink RX5 57 yX5_leads, .instanceMethod yX5_leads, .selects RX5 yX5_leads yX5_leads, .code yX5_leads cX5_leads 3 (some .boolean), .fieldLink RX5 16 "CreditGameModel" "from" "[I", .fieldLink RX5 13 "CreditGameModel" "fixedTo" "[I"] ++ wsX50)
def wsX5_need : List Cond := .code yX5_need cX5_need 9 (some .int) :: ([.fieldLink RX5 7 "CreditGameModel" "player" "[I", .fieldLink RX5 54 "CreditGameModel" "edges" "I", .fieldLink RX5 38 "CreditGameModel" "needs" "[I", .fieldLink RX5 19 "CreditGameModel" "to" "[I", .constant RX5 77 (1000000), .fieldLink RX5 22 "CreditGameModel" "weight" "[I", .methodLink RX5 57 yX5_leads, .instanceMethod yX5_leads, .selects RX5 yX5_leads yX5_leads, .initialized RX5, .code yX5_leads cX5_leads 3 (some .boolean), .fieldLink RX5 16 "CreditGameModel" "from" "[I", .fieldLink RX5 13 "CreditGameModel" "fixedTo" "[I"] ++ wsX50)
def wsX5_findNeeds : List Cond := .code yX5_findNeeds cX5_findNeeds 8 none :: ([.fieldLink RX5 54 "CreditGameModel" "edges" "I", .fieldLink RX5 22 "CreditGameModel" "weight" "[I", .fieldLink RX5 51 "CreditGameModel" "vertices" "I", .fieldLink RX5 38 "CreditGameModel" "needs" "[I", .fieldLink RX5 41 "CreditGameModel" "more" "[I", .constant RX5 77 (1000000), .methodLink RX5 73 yX5_need, .instanceMethod yX5_need, .selects RX5 yX5_need yX5_need, .initialized RX5, .code yX5_need cX5_need 9 (some .int), .fieldLink RX5 7 "CreditGameModel" "player" "[I", .fieldLink RX5 19 "CreditGameModel" "to" "[I", .methodLink RX5 57 yX5_leads, .instanceMethod yX5_leads, .selects RX5 yX5_leads yX5_leads, .code yX5_leads cX5_leads 3 (some .boolean), .fieldLink RX5 16 "CreditGameModel" "from" "[I", .fieldLink RX5 13 "CreditGameModel" "fixedTo" "[I"] ++ wsX50)
end
section
def wsX5_credit_r1 : List Cond := [Cond.fieldLink RX5 38 "CreditGameModel" "needs" "[I", Cond.constant RX5 77 (1000000), Cond.methodLink RX5 78 yX5_refuses, Cond.instanceMethod yX5_refuses, Cond.selects RX5 yX5_refuses yX5_refuses, Cond.initialized RX5, Cond.code yX5_refuses cX5_refuses 2 (some .boolean), Cond.fieldLink RX5 47 "CreditGameModel" "thrown" "I", Cond.methodLink RX5 65 yX5_isVertex, Cond.instanceMethod yX5_isVertex, Cond.selects RX5 yX5_isVertex yX5_isVertex, Cond.code yX5_isVertex cX5_isVertex 2 (some .boolean), Cond.fieldLink RX5 51 "CreditGameModel" "vertices" "I", Cond.methodLink RX5 69 yX5_isComplete, Cond.instanceMethod yX5_isComplete, Cond.selects RX5 yX5_isComplete yX5_isComplete, Cond.code yX5_isComplete cX5_isComplete 4 (some .boolean), Cond.fieldLink RX5 54 "CreditGameModel" "edges" "I", Cond.methodLink RX5 57 yX5_leads, Cond.instanceMethod yX5_leads, Cond.selects RX5 yX5_leads yX5_leads, Cond.code yX5_leads cX5_leads 3 (some .boolean), Cond.fieldLink RX5 16 "CreditGameModel" "from" "[I", Cond.fieldLink RX5 13 "CreditGameModel" "fixedTo" "[I"]
def wsX5_credit_r2 : List Cond := [Cond.methodLink RX5 81 yX5_findNeeds, Cond.instanceMethod yX5_findNeeds, Cond.selects RX5 yX5_findNeeds yX5_findNeeds, Cond.code yX5_findNeeds cX5_findNeeds 8 none, Cond.fieldLink RX5 22 "CreditGameModel" "weight" "[I", Cond.fieldLink RX5 41 "CreditGameModel" "more" "[I", Cond.methodLink RX5 73 yX5_need, Cond.instanceMethod yX5_need, Cond.selects RX5 yX5_need yX5_need, Cond.code yX5_need cX5_need 9 (some .int), Cond.fieldLink RX5 7 "CreditGameModel" "player" "[I", Cond.fieldLink RX5 19 "CreditGameModel" "to" "[I"]
def wsX5_credit : List Cond := .code yX5_credit cX5_credit 2 (some .int) :: ((wsX5_credit_r1 ++ wsX5_credit_r2) ++ wsX50)
def wsX5_common : List Cond := .code yX5_common cX5_common 5 (some .int) :: ([])
def wsX5_nearest : List Cond := .code yX5_nearest cX5_nearest 12 none :: ([.fieldLink RX5 31 "CreditGameModel" "now" "[J", .fieldLink RX5 28 "CreditGameModel" "below" "[I", .fieldLink RX5 25 "CreditGameModel" "above" "[I", .methodLink RX5 93 yX5_common, .static yX5_common, .initialized RX5, .code yX5_common cX5_common 5 (some .int)] ++ wsX50)
def wsX5_findValues_r1 : List Cond := [Cond.fieldLink RX5 61 "CreditGameModel" "known" "Z", Cond.fieldLink RX5 51 "CreditGameModel" "vertices" "I", Cond.constantLong RX5 85 (4), Cond.constantLong RX5 87 (9), Cond.fieldLink RX5 31 "CreditGameModel" "now" "[J", Cond.fieldLink RX5 54 "CreditGameModel" "edges" "I", Cond.fieldLink RX5 22 "CreditGameModel" "weight" "[I", Cond.fieldLink RX5 19 "CreditGameModel" "to" "[I", Cond.fieldLink RX5 7 "CreditGameModel" "player" "[I", Cond.fieldLink RX5 35 "CreditGameModel" "then" "[J", Cond.methodLink RX5 57 yX5_leads, Cond.instanceMethod yX5_leads, Cond.selects RX5 yX5_leads yX5_leads, Cond.initialized RX5, Cond.code yX5_leads cX5_leads 3 (some .boolean), Cond.fieldLink RX5 16 "CreditGameModel" "from" "[I", Cond.fieldLink RX5 13 "CreditGameModel" "fixedTo" "[I", Cond.methodLink RX5 89 yX5_nearest, Cond.instanceMethod yX5_nearest, Cond.selects RX5 yX5_nearest yX5_nearest, Cond.code yX5_nearest cX5_nearest 12 none, Cond.fieldLink RX5 28 "CreditGameModel" "below" "[I", Cond.fieldLink RX5 25 "CreditGameModel" "above" "[I", Cond.methodLink RX5 93 yX5_common]
def wsX5_findValues_r2 : List Cond := [Cond.static yX5_common, Cond.code yX5_common cX5_common 5 (some .int)]
def wsX5_findValues : List Cond := .code yX5_findValues cX5_findValues 13 none :: ((wsX5_findValues_r1 ++ wsX5_findValues_r2) ++ wsX50)
def wsX5_reaches_r1 : List Cond := [Cond.fieldLink RX5 47 "CreditGameModel" "thrown" "I", Cond.fieldLink RX5 25 "CreditGameModel" "above" "[I", Cond.fieldLink RX5 28 "CreditGameModel" "below" "[I", Cond.methodLink RX5 65 yX5_isVertex, Cond.instanceMethod yX5_isVertex, Cond.selects RX5 yX5_isVertex yX5_isVertex, Cond.initialized RX5, Cond.code yX5_isVertex cX5_isVertex 2 (some .boolean), Cond.fieldLink RX5 51 "CreditGameModel" "vertices" "I", Cond.methodLink RX5 69 yX5_isComplete, Cond.instanceMethod yX5_isComplete, Cond.selects RX5 yX5_isComplete yX5_isComplete, Cond.code yX5_isComplete cX5_isComplete 4 (some .boolean), Cond.fieldLink RX5 54 "CreditGameModel" "edges" "I", Cond.methodLink RX5 57 yX5_leads, Cond.instanceMethod yX5_leads, Cond.selects RX5 yX5_leads yX5_leads, Cond.code yX5_leads cX5_leads 3 (some .boolean), Cond.fieldLink RX5 16 "CreditGameModel" "from" "[I", Cond.fieldLink RX5 13 "CreditGameModel" "fixedTo" "[I", Cond.methodLink RX5 97 yX5_findValues, Cond.instanceMethod yX5_findValues, Cond.selects RX5 yX5_findValues yX5_findValues, Cond.code yX5_findValues cX5_findValues 13 none]
def wsX5_reaches_r2 : List Cond := [Cond.fieldLink RX5 61 "CreditGameModel" "known" "Z", Cond.constantLong RX5 85 (4), Cond.constantLong RX5 87 (9), Cond.fieldLink RX5 31 "CreditGameModel" "now" "[J", Cond.fieldLink RX5 22 "CreditGameModel" "weight" "[I", Cond.fieldLink RX5 19 "CreditGameModel" "to" "[I", Cond.fieldLink RX5 7 "CreditGameModel" "player" "[I", Cond.fieldLink RX5 35 "CreditGameModel" "then" "[J", Cond.methodLink RX5 89 yX5_nearest, Cond.instanceMethod yX5_nearest, Cond.selects RX5 yX5_nearest yX5_nearest, Cond.code yX5_nearest cX5_nearest 12 none, Cond.methodLink RX5 93 yX5_common, Cond.static yX5_common, Cond.code yX5_common cX5_common 5 (some .int)]
def wsX5_reaches : List Cond := .code yX5_reaches cX5_reaches 4 (some .boolean) :: ((wsX5_reaches_r1 ++ wsX5_reaches_r2) ++ wsX50)
def wsX5_value_r1 : List Cond := [Cond.fieldLink RX5 28 "CreditGameModel" "below" "[I", Cond.fieldLink RX5 25 "CreditGameModel" "above" "[I", Cond.methodLink RX5 78 yX5_refuses, Cond.instanceMethod yX5_refuses, Cond.selects RX5 yX5_refuses yX5_refuses, Cond.initialized RX5, Cond.code yX5_refuses cX5_refuses 2 (some .boolean), Cond.fieldLink RX5 47 "CreditGameModel" "thrown" "I", Cond.methodLink RX5 65 yX5_isVertex, Cond.instanceMethod yX5_isVertex, Cond.selects RX5 yX5_isVertex yX5_isVertex, Cond.code yX5_isVertex cX5_isVertex 2 (some .boolean), Cond.fieldLink RX5 51 "CreditGameModel" "vertices" "I", Cond.methodLink RX5 69 yX5_isComplete, Cond.instanceMethod yX5_isComplete, Cond.selects RX5 yX5_isComplete yX5_isComplete, Cond.code yX5_isComplete cX5_isComplete 4 (some .boolean), Cond.fieldLink RX5 54 "CreditGameModel" "edges" "I", Cond.methodLink RX5 57 yX5_leads, Cond.instanceMethod yX5_leads, Cond.selects RX5 yX5_leads yX5_leads, Cond.code yX5_leads cX5_leads 3 (some .boolean), Cond.fieldLink RX5 16 "CreditGameModel" "from" "[I", Cond.fieldLink RX5 13 "CreditGameModel" "fixedTo" "[I"]
def wsX5_value_r2 : List Cond := [Cond.methodLink RX5 97 yX5_findValues, Cond.instanceMethod yX5_findValues, Cond.selects RX5 yX5_findValues yX5_findValues, Cond.code yX5_findValues cX5_findValues 13 none, Cond.fieldLink RX5 61 "CreditGameModel" "known" "Z", Cond.constantLong RX5 85 (4), Cond.constantLong RX5 87 (9), Cond.fieldLink RX5 31 "CreditGameModel" "now" "[J", Cond.fieldLink RX5 22 "CreditGameModel" "weight" "[I", Cond.fieldLink RX5 19 "CreditGameModel" "to" "[I", Cond.fieldLink RX5 7 "CreditGameModel" "player" "[I", Cond.fieldLink RX5 35 "CreditGameModel" "then" "[J", Cond.methodLink RX5 89 yX5_nearest, Cond.instanceMethod yX5_nearest, Cond.selects RX5 yX5_nearest yX5_nearest, Cond.code yX5_nearest cX5_nearest 12 none, Cond.methodLink RX5 93 yX5_common, Cond.static yX5_common, Cond.code yX5_common cX5_common 5 (some .int)]
def wsX5_value : List Cond := .code yX5_value cX5_value 3 (some .int) :: ((wsX5_value_r1 ++ wsX5_value_r2) ++ wsX50)
def wsX5_bestOf_r1 : List Cond := [Cond.fieldLink RX5 25 "CreditGameModel" "above" "[I", Cond.fieldLink RX5 28 "CreditGameModel" "below" "[I", Cond.fieldLink RX5 7 "CreditGameModel" "player" "[I", Cond.fieldLink RX5 54 "CreditGameModel" "edges" "I", Cond.fieldLink RX5 38 "CreditGameModel" "needs" "[I", Cond.fieldLink RX5 19 "CreditGameModel" "to" "[I", Cond.constant RX5 77 (1000000), Cond.fieldLink RX5 22 "CreditGameModel" "weight" "[I", Cond.methodLink RX5 97 yX5_findValues, Cond.instanceMethod yX5_findValues, Cond.selects RX5 yX5_findValues yX5_findValues, Cond.initialized RX5, Cond.code yX5_findValues cX5_findValues 13 none, Cond.fieldLink RX5 61 "CreditGameModel" "known" "Z", Cond.fieldLink RX5 51 "CreditGameModel" "vertices" "I", Cond.constantLong RX5 85 (4), Cond.constantLong RX5 87 (9), Cond.fieldLink RX5 31 "CreditGameModel" "now" "[J", Cond.fieldLink RX5 35 "CreditGameModel" "then" "[J", Cond.methodLink RX5 57 yX5_leads, Cond.instanceMethod yX5_leads, Cond.selects RX5 yX5_leads yX5_leads, Cond.code yX5_leads cX5_leads 3 (some .boolean), Cond.fieldLink RX5 16 "CreditGameModel" "from" "[I"]
def wsX5_bestOf_r2 : List Cond := [Cond.fieldLink RX5 13 "CreditGameModel" "fixedTo" "[I", Cond.methodLink RX5 89 yX5_nearest, Cond.instanceMethod yX5_nearest, Cond.selects RX5 yX5_nearest yX5_nearest, Cond.code yX5_nearest cX5_nearest 12 none, Cond.methodLink RX5 93 yX5_common, Cond.static yX5_common, Cond.code yX5_common cX5_common 5 (some .int), Cond.methodLink RX5 81 yX5_findNeeds, Cond.instanceMethod yX5_findNeeds, Cond.selects RX5 yX5_findNeeds yX5_findNeeds, Cond.code yX5_findNeeds cX5_findNeeds 8 none, Cond.fieldLink RX5 41 "CreditGameModel" "more" "[I", Cond.methodLink RX5 73 yX5_need, Cond.instanceMethod yX5_need, Cond.selects RX5 yX5_need yX5_need, Cond.code yX5_need cX5_need 9 (some .int)]
def wsX5_bestOf : List Cond := .code yX5_bestOf cX5_bestOf 8 (some .int) :: ((wsX5_bestOf_r1 ++ wsX5_bestOf_r2) ++ wsX50)
def wsX5_best_r1 : List Cond := [Cond.methodLink RX5 78 yX5_refuses, Cond.instanceMethod yX5_refuses, Cond.selects RX5 yX5_refuses yX5_refuses, Cond.initialized RX5, Cond.code yX5_refuses cX5_refuses 2 (some .boolean), Cond.fieldLink RX5 47 "CreditGameModel" "thrown" "I", Cond.methodLink RX5 65 yX5_isVertex, Cond.instanceMethod yX5_isVertex, Cond.selects RX5 yX5_isVertex yX5_isVertex, Cond.code yX5_isVertex cX5_isVertex 2 (some .boolean), Cond.fieldLink RX5 51 "CreditGameModel" "vertices" "I", Cond.methodLink RX5 69 yX5_isComplete, Cond.instanceMethod yX5_isComplete, Cond.selects RX5 yX5_isComplete yX5_isComplete, Cond.code yX5_isComplete cX5_isComplete 4 (some .boolean), Cond.fieldLink RX5 54 "CreditGameModel" "edges" "I", Cond.methodLink RX5 57 yX5_leads, Cond.instanceMethod yX5_leads, Cond.selects RX5 yX5_leads yX5_leads, Cond.code yX5_leads cX5_leads 3 (some .boolean), Cond.fieldLink RX5 16 "CreditGameModel" "from" "[I", Cond.fieldLink RX5 13 "CreditGameModel" "fixedTo" "[I", Cond.methodLink RX5 100 yX5_bestOf, Cond.instanceMethod yX5_bestOf]
def wsX5_best_r2 : List Cond := [Cond.selects RX5 yX5_bestOf yX5_bestOf, Cond.code yX5_bestOf cX5_bestOf 8 (some .int), Cond.fieldLink RX5 25 "CreditGameModel" "above" "[I", Cond.fieldLink RX5 28 "CreditGameModel" "below" "[I", Cond.fieldLink RX5 7 "CreditGameModel" "player" "[I", Cond.fieldLink RX5 38 "CreditGameModel" "needs" "[I", Cond.fieldLink RX5 19 "CreditGameModel" "to" "[I", Cond.constant RX5 77 (1000000), Cond.fieldLink RX5 22 "CreditGameModel" "weight" "[I", Cond.methodLink RX5 97 yX5_findValues, Cond.instanceMethod yX5_findValues, Cond.selects RX5 yX5_findValues yX5_findValues, Cond.code yX5_findValues cX5_findValues 13 none, Cond.fieldLink RX5 61 "CreditGameModel" "known" "Z", Cond.constantLong RX5 85 (4), Cond.constantLong RX5 87 (9), Cond.fieldLink RX5 31 "CreditGameModel" "now" "[J", Cond.fieldLink RX5 35 "CreditGameModel" "then" "[J", Cond.methodLink RX5 89 yX5_nearest, Cond.instanceMethod yX5_nearest, Cond.selects RX5 yX5_nearest yX5_nearest, Cond.code yX5_nearest cX5_nearest 12 none, Cond.methodLink RX5 93 yX5_common, Cond.static yX5_common]
def wsX5_best_r3 : List Cond := [Cond.code yX5_common cX5_common 5 (some .int), Cond.methodLink RX5 81 yX5_findNeeds, Cond.instanceMethod yX5_findNeeds, Cond.selects RX5 yX5_findNeeds yX5_findNeeds, Cond.code yX5_findNeeds cX5_findNeeds 8 none, Cond.fieldLink RX5 41 "CreditGameModel" "more" "[I", Cond.methodLink RX5 73 yX5_need, Cond.instanceMethod yX5_need, Cond.selects RX5 yX5_need yX5_need, Cond.code yX5_need cX5_need 9 (some .int)]
def wsX5_best : List Cond := .code yX5_best cX5_best 2 (some .int) :: ((wsX5_best_r1 ++ (wsX5_best_r2 ++ wsX5_best_r3)) ++ wsX50)
def wsX5_settle_r1 : List Cond := [Cond.fieldLink RX5 47 "CreditGameModel" "thrown" "I", Cond.fieldLink RX5 51 "CreditGameModel" "vertices" "I", Cond.fieldLink RX5 44 "CreditGameModel" "chosen" "[I", Cond.fieldLink RX5 7 "CreditGameModel" "player" "[I", Cond.fieldLink RX5 13 "CreditGameModel" "fixedTo" "[I", Cond.fieldLink RX5 61 "CreditGameModel" "known" "Z", Cond.methodLink RX5 69 yX5_isComplete, Cond.instanceMethod yX5_isComplete, Cond.selects RX5 yX5_isComplete yX5_isComplete, Cond.initialized RX5, Cond.code yX5_isComplete cX5_isComplete 4 (some .boolean), Cond.fieldLink RX5 54 "CreditGameModel" "edges" "I", Cond.methodLink RX5 57 yX5_leads, Cond.instanceMethod yX5_leads, Cond.selects RX5 yX5_leads yX5_leads, Cond.code yX5_leads cX5_leads 3 (some .boolean), Cond.fieldLink RX5 16 "CreditGameModel" "from" "[I", Cond.methodLink RX5 100 yX5_bestOf, Cond.instanceMethod yX5_bestOf, Cond.selects RX5 yX5_bestOf yX5_bestOf, Cond.code yX5_bestOf cX5_bestOf 8 (some .int), Cond.fieldLink RX5 25 "CreditGameModel" "above" "[I", Cond.fieldLink RX5 28 "CreditGameModel" "below" "[I", Cond.fieldLink RX5 38 "CreditGameModel" "needs" "[I"]
def wsX5_settle_r2 : List Cond := [Cond.fieldLink RX5 19 "CreditGameModel" "to" "[I", Cond.constant RX5 77 (1000000), Cond.fieldLink RX5 22 "CreditGameModel" "weight" "[I", Cond.methodLink RX5 97 yX5_findValues, Cond.instanceMethod yX5_findValues, Cond.selects RX5 yX5_findValues yX5_findValues, Cond.code yX5_findValues cX5_findValues 13 none, Cond.constantLong RX5 85 (4), Cond.constantLong RX5 87 (9), Cond.fieldLink RX5 31 "CreditGameModel" "now" "[J", Cond.fieldLink RX5 35 "CreditGameModel" "then" "[J", Cond.methodLink RX5 89 yX5_nearest, Cond.instanceMethod yX5_nearest, Cond.selects RX5 yX5_nearest yX5_nearest, Cond.code yX5_nearest cX5_nearest 12 none, Cond.methodLink RX5 93 yX5_common, Cond.static yX5_common, Cond.code yX5_common cX5_common 5 (some .int), Cond.methodLink RX5 81 yX5_findNeeds, Cond.instanceMethod yX5_findNeeds, Cond.selects RX5 yX5_findNeeds yX5_findNeeds, Cond.code yX5_findNeeds cX5_findNeeds 8 none, Cond.fieldLink RX5 41 "CreditGameModel" "more" "[I", Cond.methodLink RX5 73 yX5_need]
def wsX5_settle_r3 : List Cond := [Cond.instanceMethod yX5_need, Cond.selects RX5 yX5_need yX5_need, Cond.code yX5_need cX5_need 9 (some .int)]
def wsX5_settle : List Cond := .code yX5_settle cX5_settle 4 (some .int) :: ((wsX5_settle_r1 ++ (wsX5_settle_r2 ++ wsX5_settle_r3)) ++ wsX50)
def wsX5_walk_r1 : List Cond := [Cond.fieldLink RX5 47 "CreditGameModel" "thrown" "I", Cond.fieldLink RX5 51 "CreditGameModel" "vertices" "I", Cond.fieldLink RX5 44 "CreditGameModel" "chosen" "[I", Cond.fieldLink RX5 19 "CreditGameModel" "to" "[I", Cond.fieldLink RX5 22 "CreditGameModel" "weight" "[I", Cond.methodLink RX5 65 yX5_isVertex, Cond.instanceMethod yX5_isVertex, Cond.selects RX5 yX5_isVertex yX5_isVertex, Cond.initialized RX5, Cond.code yX5_isVertex cX5_isVertex 2 (some .boolean), Cond.methodLink RX5 69 yX5_isComplete, Cond.instanceMethod yX5_isComplete, Cond.selects RX5 yX5_isComplete yX5_isComplete, Cond.code yX5_isComplete cX5_isComplete 4 (some .boolean), Cond.fieldLink RX5 54 "CreditGameModel" "edges" "I", Cond.methodLink RX5 57 yX5_leads, Cond.instanceMethod yX5_leads, Cond.selects RX5 yX5_leads yX5_leads, Cond.code yX5_leads cX5_leads 3 (some .boolean), Cond.fieldLink RX5 16 "CreditGameModel" "from" "[I", Cond.fieldLink RX5 13 "CreditGameModel" "fixedTo" "[I", Cond.methodLink RX5 100 yX5_bestOf, Cond.instanceMethod yX5_bestOf, Cond.selects RX5 yX5_bestOf yX5_bestOf]
def wsX5_walk_r2 : List Cond := [Cond.code yX5_bestOf cX5_bestOf 8 (some .int), Cond.fieldLink RX5 25 "CreditGameModel" "above" "[I", Cond.fieldLink RX5 28 "CreditGameModel" "below" "[I", Cond.fieldLink RX5 7 "CreditGameModel" "player" "[I", Cond.fieldLink RX5 38 "CreditGameModel" "needs" "[I", Cond.constant RX5 77 (1000000), Cond.methodLink RX5 97 yX5_findValues, Cond.instanceMethod yX5_findValues, Cond.selects RX5 yX5_findValues yX5_findValues, Cond.code yX5_findValues cX5_findValues 13 none, Cond.fieldLink RX5 61 "CreditGameModel" "known" "Z", Cond.constantLong RX5 85 (4), Cond.constantLong RX5 87 (9), Cond.fieldLink RX5 31 "CreditGameModel" "now" "[J", Cond.fieldLink RX5 35 "CreditGameModel" "then" "[J", Cond.methodLink RX5 89 yX5_nearest, Cond.instanceMethod yX5_nearest, Cond.selects RX5 yX5_nearest yX5_nearest, Cond.code yX5_nearest cX5_nearest 12 none, Cond.methodLink RX5 93 yX5_common, Cond.static yX5_common, Cond.code yX5_common cX5_common 5 (some .int), Cond.methodLink RX5 81 yX5_findNeeds, Cond.instanceMethod yX5_findNeeds]
def wsX5_walk_r3 : List Cond := [Cond.selects RX5 yX5_findNeeds yX5_findNeeds, Cond.code yX5_findNeeds cX5_findNeeds 8 none, Cond.fieldLink RX5 41 "CreditGameModel" "more" "[I", Cond.methodLink RX5 73 yX5_need, Cond.instanceMethod yX5_need, Cond.selects RX5 yX5_need yX5_need, Cond.code yX5_need cX5_need 9 (some .int)]
def wsX5_walk : List Cond := .code yX5_walk cX5_walk 10 (some .int) :: ((wsX5_walk_r1 ++ (wsX5_walk_r2 ++ wsX5_walk_r3)) ++ wsX50)
def wsJ9_max_7cf53 : List Cond := .code yJ9_max_7cf53 cJ9_max_7cf53 2 (some .int) :: ([])
def wsJ9_min_7cf53 : List Cond := .code yJ9_min_7cf53 cJ9_min_7cf53 2 (some .int) :: ([])
def wsL_vertex_r1 : List Cond := [Cond.classLink RL 13 "java/lang/IllegalArgumentException", Cond.classLink RL 15 "java/lang/IllegalStateException", Cond.methodLink RL 7 yX4_vertex, Cond.instanceMethod yX4_vertex, Cond.selects RX4 yX4_vertex yX4_vertex, Cond.initialized RX4, Cond.code yX4_vertex cX4_vertex 2 (some .int), Cond.classLink RX4 53 "java/lang/IllegalStateException", Cond.initialized "java/lang/IllegalStateException", Cond.fieldLink RX4 10 "CreditGame" "graph" "LCreditGame$Graph;", Cond.fieldLink RX4 21 "CreditGame" "values" "LCreditGame$Values;", Cond.methodLink RX4 45 yX4_checkPlayer, Cond.instanceMethod yX4_checkPlayer, Cond.selects RX4 yX4_checkPlayer yX4_checkPlayer, Cond.code yX4_checkPlayer cX4_checkPlayer 2 none, Cond.classLink RX4 70 "java/lang/IllegalArgumentException", Cond.initialized "java/lang/IllegalArgumentException", Cond.instanceMethod yX3_forget, Cond.initialized RX3, Cond.selects RX3 yX3_forget yX3_forget, Cond.code yX3_forget cX3_forget 2 none, Cond.fieldLink RX3 18 "CreditGame$Values" "known" "[Z", Cond.instanceMethod yX1_addVertex, Cond.initialized RX1]
def wsL_vertex_r2 : List Cond := [Cond.selects RX1 yX1_addVertex yX1_addVertex, Cond.code yX1_addVertex cX1_addVertex 3 (some .int), Cond.fieldLink RX1 35 "CreditGame$Graph" "vertexCount" "I", Cond.fieldLink RX1 9 "CreditGame$Graph" "owner" "[I", Cond.fieldLink RX1 15 "CreditGame$Graph" "fixedTo" "[I"]
def wsL_vertex : List Cond := .codeWith yL_vertex cL_vertex 4 (some .int) [(0, 9, 12, 13), (0, 9, 15, 15)] :: ((wsL_vertex_r1 ++ wsL_vertex_r2) ++ wsX40 ++ wsX10 ++ wsX30 ++ (vx_atS RX4 57 "java/lang/IllegalStateException" ["java/lang/RuntimeException", "java/lang/Exception"]).filter goodWord ++ (vx_atS RX4 74 "java/lang/IllegalArgumentException" ["java/lang/RuntimeException", "java/lang/Exception"]).filter goodWord)
def wsL_edge_r1 : List Cond := [Cond.classLink RL 13 "java/lang/IllegalArgumentException", Cond.classLink RL 15 "java/lang/IllegalStateException", Cond.methodLink RL 17 yX4_edge, Cond.instanceMethod yX4_edge, Cond.selects RX4 yX4_edge yX4_edge, Cond.initialized RX4, Cond.code yX4_edge cX4_edge 4 (some .int), Cond.classLink RX4 70 "java/lang/IllegalArgumentException", Cond.initialized "java/lang/IllegalArgumentException", Cond.classLink RX4 53 "java/lang/IllegalStateException", Cond.initialized "java/lang/IllegalStateException", Cond.fieldLink RX4 10 "CreditGame" "graph" "LCreditGame$Graph;", Cond.fieldLink RX4 21 "CreditGame" "values" "LCreditGame$Values;", Cond.methodLink RX4 67 yX4_checkVertex, Cond.instanceMethod yX4_checkVertex, Cond.selects RX4 yX4_checkVertex yX4_checkVertex, Cond.code yX4_checkVertex cX4_checkVertex 2 none, Cond.instanceMethod yX1_hasVertex, Cond.initialized RX1, Cond.selects RX1 yX1_hasVertex yX1_hasVertex, Cond.code yX1_hasVertex cX1_hasVertex 2 (some .boolean), Cond.fieldLink RX1 35 "CreditGame$Graph" "vertexCount" "I", Cond.instanceMethod yX3_forget, Cond.initialized RX3]
def wsL_edge_r2 : List Cond := [Cond.selects RX3 yX3_forget yX3_forget, Cond.code yX3_forget cX3_forget 2 none, Cond.fieldLink RX3 18 "CreditGame$Values" "known" "[Z", Cond.instanceMethod yX1_addEdge, Cond.selects RX1 yX1_addEdge yX1_addEdge, Cond.code yX1_addEdge cX1_addEdge 6 (some .int), Cond.fieldLink RX1 39 "CreditGame$Graph" "edgeCount" "I", Cond.fieldLink RX1 18 "CreditGame$Graph" "outCount" "[I", Cond.fieldLink RX1 26 "CreditGame$Graph" "source" "[I", Cond.fieldLink RX1 29 "CreditGame$Graph" "target" "[I", Cond.fieldLink RX1 32 "CreditGame$Graph" "weight" "[I", Cond.fieldLink RX1 23 "CreditGame$Graph" "out" "[[I", Cond.methodLink RX1 42 yX1_hasVertex]
def wsL_edge : List Cond := .codeWith yL_edge cL_edge 6 (some .int) [(0, 12, 15, 13), (0, 12, 19, 15)] :: ((wsL_edge_r1 ++ wsL_edge_r2) ++ wsX40 ++ wsX10 ++ wsX30 ++ (vx_atS RX4 74 "java/lang/IllegalArgumentException" ["java/lang/RuntimeException", "java/lang/Exception"]).filter goodWord ++ (vx_atS RX4 57 "java/lang/IllegalStateException" ["java/lang/RuntimeException", "java/lang/Exception"]).filter goodWord)
def wsL_fix_r1 : List Cond := [Cond.classLink RL 13 "java/lang/IllegalArgumentException", Cond.methodLink RL 21 yX4_fix, Cond.instanceMethod yX4_fix, Cond.selects RX4 yX4_fix yX4_fix, Cond.initialized RX4, Cond.code yX4_fix cX4_fix 3 none, Cond.classLink RX4 70 "java/lang/IllegalArgumentException", Cond.initialized "java/lang/IllegalArgumentException", Cond.fieldLink RX4 10 "CreditGame" "graph" "LCreditGame$Graph;", Cond.fieldLink RX4 21 "CreditGame" "values" "LCreditGame$Values;", Cond.methodLink RX4 67 yX4_checkVertex, Cond.instanceMethod yX4_checkVertex, Cond.selects RX4 yX4_checkVertex yX4_checkVertex, Cond.code yX4_checkVertex cX4_checkVertex 2 none, Cond.instanceMethod yX1_hasVertex, Cond.initialized RX1, Cond.selects RX1 yX1_hasVertex yX1_hasVertex, Cond.code yX1_hasVertex cX1_hasVertex 2 (some .boolean), Cond.fieldLink RX1 35 "CreditGame$Graph" "vertexCount" "I", Cond.instanceMethod yX1_isFrom, Cond.selects RX1 yX1_isFrom yX1_isFrom, Cond.code yX1_isFrom cX1_isFrom 3 (some .boolean), Cond.fieldLink RX1 39 "CreditGame$Graph" "edgeCount" "I", Cond.fieldLink RX1 26 "CreditGame$Graph" "source" "[I"]
def wsL_fix_r2 : List Cond := [Cond.instanceMethod yX3_forget, Cond.initialized RX3, Cond.selects RX3 yX3_forget yX3_forget, Cond.code yX3_forget cX3_forget 2 none, Cond.fieldLink RX3 18 "CreditGame$Values" "known" "[Z", Cond.instanceMethod yX1_setFixed, Cond.selects RX1 yX1_setFixed yX1_setFixed, Cond.code yX1_setFixed cX1_setFixed 3 none, Cond.fieldLink RX1 15 "CreditGame$Graph" "fixedTo" "[I", Cond.methodLink RX1 42 yX1_hasVertex]
def wsL_fix : List Cond := .codeWith yL_fix cL_fix 4 (some .int) [(0, 6, 9, 13)] :: ((wsL_fix_r1 ++ wsL_fix_r2) ++ wsX40 ++ wsX10 ++ wsX30 ++ (vx_atS RX4 74 "java/lang/IllegalArgumentException" ["java/lang/RuntimeException", "java/lang/Exception"]).filter goodWord)
def wsL_fixed : List Cond := .codeWith yL_fixed cL_fixed 4 (some .int) [(0, 9, 12, 13)] :: ([.classLink RL 13 "java/lang/IllegalArgumentException", .methodLink RL 25 yX4_fixed, .instanceMethod yX4_fixed, .selects RX4 yX4_fixed yX4_fixed, .initialized RX4, .code yX4_fixed cX4_fixed 2 (some .int), .fieldLink RX4 10 "CreditGame" "graph" "LCreditGame$Graph;", .methodLink RX4 67 yX4_checkVertex, .instanceMethod yX4_checkVertex, .selects RX4 yX4_checkVertex yX4_checkVertex, .code yX4_checkVertex cX4_checkVertex 2 none, .classLink RX4 70 "java/lang/IllegalArgumentException", .initialized "java/lang/IllegalArgumentException", .instanceMethod yX1_hasVertex, .initialized RX1, .selects RX1 yX1_hasVertex yX1_hasVertex, .code yX1_hasVertex cX1_hasVertex 2 (some .boolean), .fieldLink RX1 35 "CreditGame$Graph" "vertexCount" "I", .instanceMethod yX1_fixedOf, .selects RX1 yX1_fixedOf yX1_fixedOf, .code yX1_fixedOf cX1_fixedOf 2 (some .int), .fieldLink RX1 15 "CreditGame$Graph" "fixedTo" "[I", .methodLink RX1 42 yX1_hasVertex] ++ wsX40 ++ wsX10 ++ (vx_atS RX4 74 "java/lang/IllegalArgumentException" ["java/lang/RuntimeException", "java/lang/Exception"]).filter goodWord)
def wsL_credit_r1 : List Cond := [Cond.classLink RL 13 "java/lang/IllegalArgumentException", Cond.classLink RL 15 "java/lang/IllegalStateException", Cond.methodLink RL 28 yX4_credit, Cond.instanceMethod yX4_credit, Cond.selects RX4 yX4_credit yX4_credit, Cond.initialized RX4, Cond.code yX4_credit cX4_credit 2 (some .int), Cond.fieldLink RX4 21 "CreditGame" "values" "LCreditGame$Values;", Cond.fieldLink RX4 30 "CreditGame" "credits" "LCreditGame$Credits;", Cond.methodLink RX4 67 yX4_checkVertex, Cond.instanceMethod yX4_checkVertex, Cond.selects RX4 yX4_checkVertex yX4_checkVertex, Cond.code yX4_checkVertex cX4_checkVertex 2 none, Cond.classLink RX4 70 "java/lang/IllegalArgumentException", Cond.initialized "java/lang/IllegalArgumentException", Cond.fieldLink RX4 10 "CreditGame" "graph" "LCreditGame$Graph;", Cond.instanceMethod yX1_hasVertex, Cond.initialized RX1, Cond.selects RX1 yX1_hasVertex yX1_hasVertex, Cond.code yX1_hasVertex cX1_hasVertex 2 (some .boolean), Cond.fieldLink RX1 35 "CreditGame$Graph" "vertexCount" "I", Cond.methodLink RX4 97 yX4_checkComplete, Cond.instanceMethod yX4_checkComplete, Cond.selects RX4 yX4_checkComplete yX4_checkComplete]
def wsL_credit_r2 : List Cond := [Cond.code yX4_checkComplete cX4_checkComplete 1 none, Cond.classLink RX4 53 "java/lang/IllegalStateException", Cond.initialized "java/lang/IllegalStateException", Cond.instanceMethod yX1_isComplete, Cond.selects RX1 yX1_isComplete yX1_isComplete, Cond.code yX1_isComplete cX1_isComplete 2 (some .boolean), Cond.methodLink RX1 46 yX1_waysFrom, Cond.instanceMethod yX1_waysFrom, Cond.selects RX1 yX1_waysFrom yX1_waysFrom, Cond.code yX1_waysFrom cX1_waysFrom 2 (some .int), Cond.fieldLink RX1 15 "CreditGame$Graph" "fixedTo" "[I", Cond.fieldLink RX1 18 "CreditGame$Graph" "outCount" "[I", Cond.methodLink RX1 42 yX1_hasVertex, Cond.instanceMethod yX3_findAll, Cond.initialized RX3, Cond.selects RX3 yX3_findAll yX3_findAll, Cond.code yX3_findAll cX3_findAll 2 none, Cond.methodLink RX3 30 yX3_find, Cond.instanceMethod yX3_find, Cond.selects RX3 yX3_find yX3_find, Cond.code yX3_find cX3_find 2 none, Cond.fieldLink RX3 26 "CreditGame$Values" "graph" "LCreditGame$Graph;", Cond.fieldLink RX3 18 "CreditGame$Values" "known" "[Z", Cond.fieldLink RX3 12 "CreditGame$Values" "path" "LCreditGame$Path;"]
def wsL_credit_r3 : List Cond := [Cond.fieldLink RX3 22 "CreditGame$Values" "parts" "[I", Cond.constant RX3 43 (-1000000), Cond.constant RX3 44 (1000000), Cond.instanceMethod yX2_clear, Cond.initialized RX2, Cond.selects RX2 yX2_clear yX2_clear, Cond.code yX2_clear cX2_clear 1 none, Cond.fieldLink RX2 9 "CreditGame$Path" "steps" "[I", Cond.methodLink RX2 18 yJ7_fill_53178, Cond.static yJ7_fill_53178, Cond.initialized RJ7, Cond.code yJ7_fill_53178 cJ7_fill_53178 4 none, Cond.methodLink RX3 45 yX3_playAt, Cond.instanceMethod yX3_playAt, Cond.selects RX3 yX3_playAt yX3_playAt, Cond.code yX3_playAt cX3_playAt 7 (some .int), Cond.instanceMethod yX2_has, Cond.selects RX2 yX2_has yX2_has, Cond.code yX2_has cX2_has 2 (some .boolean), Cond.methodLink RX2 24 yX2_isPlace, Cond.instanceMethod yX2_isPlace, Cond.selects RX2 yX2_isPlace yX2_isPlace, Cond.code yX2_isPlace cX2_isPlace 2 (some .boolean), Cond.instanceMethod yX2_stepsTo]
def wsL_credit_r4 : List Cond := [Cond.selects RX2 yX2_stepsTo yX2_stepsTo, Cond.code yX2_stepsTo cX2_stepsTo 2 (some .int), Cond.instanceMethod yX2_sumTo, Cond.selects RX2 yX2_sumTo yX2_sumTo, Cond.code yX2_sumTo cX2_sumTo 2 (some .int), Cond.fieldLink RX2 15 "CreditGame$Path" "sums" "[I", Cond.methodLink RX3 71 yX3_loopParts, Cond.static yX3_loopParts, Cond.code yX3_loopParts cX3_loopParts 2 (some .int), Cond.instanceMethod yX2_enter, Cond.selects RX2 yX2_enter yX2_enter, Cond.code yX2_enter cX2_enter 4 none, Cond.instanceMethod yX1_ownerOf, Cond.selects RX1 yX1_ownerOf yX1_ownerOf, Cond.code yX1_ownerOf cX1_ownerOf 2 (some .int), Cond.fieldLink RX1 9 "CreditGame$Graph" "owner" "[I", Cond.methodLink RX3 81 yX3_greatestPay, Cond.instanceMethod yX3_greatestPay, Cond.selects RX3 yX3_greatestPay yX3_greatestPay, Cond.methodLink RX3 84 yX3_leastPay, Cond.instanceMethod yX3_leastPay, Cond.selects RX3 yX3_leastPay yX3_leastPay, Cond.instanceMethod yX2_leave, Cond.selects RX2 yX2_leave yX2_leave]
def wsL_credit_r5 : List Cond := [Cond.code yX2_leave cX2_leave 2 none, Cond.code yX3_greatestPay cX3_greatestPay 11 (some .int), Cond.methodLink RX3 102 Lib.Math.max.name, Cond.static Lib.Math.max.name, Cond.initialized "java/lang/Math", Cond.code Lib.Math.max.name Lib.Math.max.code 2 (some .int), Cond.instanceMethod yX1_wayFrom, Cond.selects RX1 yX1_wayFrom yX1_wayFrom, Cond.code yX1_wayFrom cX1_wayFrom 3 (some .int), Cond.fieldLink RX1 23 "CreditGame$Graph" "out" "[[I", Cond.instanceMethod yX1_targetOf, Cond.selects RX1 yX1_targetOf yX1_targetOf, Cond.code yX1_targetOf cX1_targetOf 2 (some .int), Cond.fieldLink RX1 29 "CreditGame$Graph" "target" "[I", Cond.instanceMethod yX1_weightOf, Cond.selects RX1 yX1_weightOf yX1_weightOf, Cond.code yX1_weightOf cX1_weightOf 2 (some .int), Cond.fieldLink RX1 32 "CreditGame$Graph" "weight" "[I", Cond.code yX3_leastPay cX3_leastPay 11 (some .int), Cond.methodLink RX3 107 Lib.Math.min.name, Cond.static Lib.Math.min.name, Cond.code Lib.Math.min.name Lib.Math.min.code 2 (some .int), Cond.instanceMethod yX0_solve, Cond.initialized RX0]
def wsL_credit_r6 : List Cond := [Cond.selects RX0 yX0_solve yX0_solve, Cond.code yX0_solve cX0_solve 8 none, Cond.fieldLink RX0 18 "CreditGame$Credits" "graph" "LCreditGame$Graph;", Cond.fieldLink RX0 15 "CreditGame$Credits" "gain" "[I", Cond.fieldLink RX0 9 "CreditGame$Credits" "need" "[I", Cond.fieldLink RX0 22 "CreditGame$Credits" "values" "LCreditGame$Values;", Cond.instanceMethod yX3_order, Cond.selects RX3 yX3_order yX3_order, Cond.code yX3_order cX3_order 4 (some .int), Cond.methodLink RX3 49 yX3_partsOf, Cond.instanceMethod yX3_partsOf, Cond.selects RX3 yX3_partsOf yX3_partsOf, Cond.code yX3_partsOf cX3_partsOf 2 (some .int), Cond.methodLink RX3 56 yJ6_compare_7cf53, Cond.static yJ6_compare_7cf53, Cond.initialized RJ6, Cond.code yJ6_compare_7cf53 cJ6_compare_7cf53 2 (some .int), Cond.methodLink RX0 38 yX0_isGoodFor, Cond.instanceMethod yX0_isGoodFor, Cond.selects RX0 yX0_isGoodFor yX0_isGoodFor, Cond.code yX0_isGoodFor cX0_isGoodFor 3 (some .boolean), Cond.methodLink RX0 45 yX0_enoughAt, Cond.instanceMethod yX0_enoughAt, Cond.selects RX0 yX0_enoughAt yX0_enoughAt]
def wsL_credit_r7 : List Cond := [Cond.code yX0_enoughAt cX0_enoughAt 8 (some .int), Cond.methodLink RX0 56 yX0_needBefore, Cond.instanceMethod yX0_needBefore, Cond.selects RX0 yX0_needBefore yX0_needBefore, Cond.code yX0_needBefore cX0_needBefore 3 (some .int), Cond.methodLink RX0 68 Lib.Math.max.name, Cond.methodLink RX0 62 yX0_needOf, Cond.instanceMethod yX0_needOf, Cond.selects RX0 yX0_needOf yX0_needOf, Cond.code yX0_needOf cX0_needOf 2 (some .int), Cond.methodLink RX0 65 yX0_gainOf, Cond.instanceMethod yX0_gainOf, Cond.selects RX0 yX0_gainOf yX0_gainOf, Cond.code yX0_gainOf cX0_gainOf 2 (some .int)]
def wsL_credit : List Cond := .codeWith yL_credit cL_credit 4 (some .int) [(0, 9, 12, 13), (0, 9, 15, 15)] :: ((wsL_credit_r1 ++ (wsL_credit_r2 ++ (wsL_credit_r3 ++ (wsL_credit_r4 ++ (wsL_credit_r5 ++ (wsL_credit_r6 ++ wsL_credit_r7)))))) ++ wsX40 ++ wsX10 ++ wsX30 ++ wsX20 ++ wsX00 ++ (vx_atS RX4 74 "java/lang/IllegalArgumentException" ["java/lang/RuntimeException", "java/lang/Exception"]).filter goodWord ++ (vx_atS RX4 57 "java/lang/IllegalStateException" ["java/lang/RuntimeException", "java/lang/Exception"]).filter goodWord)
def wsL_reaches_r1 : List Cond := [Cond.classLink RL 13 "java/lang/IllegalArgumentException", Cond.classLink RL 15 "java/lang/IllegalStateException", Cond.methodLink RL 31 yX4_reaches, Cond.instanceMethod yX4_reaches, Cond.selects RX4 yX4_reaches yX4_reaches, Cond.initialized RX4, Cond.code yX4_reaches cX4_reaches 4 (some .boolean), Cond.classLink RX4 70 "java/lang/IllegalArgumentException", Cond.initialized "java/lang/IllegalArgumentException", Cond.fieldLink RX4 21 "CreditGame" "values" "LCreditGame$Values;", Cond.methodLink RX4 67 yX4_checkVertex, Cond.instanceMethod yX4_checkVertex, Cond.selects RX4 yX4_checkVertex yX4_checkVertex, Cond.code yX4_checkVertex cX4_checkVertex 2 none, Cond.fieldLink RX4 10 "CreditGame" "graph" "LCreditGame$Graph;", Cond.instanceMethod yX1_hasVertex, Cond.initialized RX1, Cond.selects RX1 yX1_hasVertex yX1_hasVertex, Cond.code yX1_hasVertex cX1_hasVertex 2 (some .boolean), Cond.fieldLink RX1 35 "CreditGame$Graph" "vertexCount" "I", Cond.methodLink RX4 97 yX4_checkComplete, Cond.instanceMethod yX4_checkComplete, Cond.selects RX4 yX4_checkComplete yX4_checkComplete, Cond.code yX4_checkComplete cX4_checkComplete 1 none]
def wsL_reaches_r2 : List Cond := [Cond.classLink RX4 53 "java/lang/IllegalStateException", Cond.initialized "java/lang/IllegalStateException", Cond.instanceMethod yX1_isComplete, Cond.selects RX1 yX1_isComplete yX1_isComplete, Cond.code yX1_isComplete cX1_isComplete 2 (some .boolean), Cond.methodLink RX1 46 yX1_waysFrom, Cond.instanceMethod yX1_waysFrom, Cond.selects RX1 yX1_waysFrom yX1_waysFrom, Cond.code yX1_waysFrom cX1_waysFrom 2 (some .int), Cond.fieldLink RX1 15 "CreditGame$Graph" "fixedTo" "[I", Cond.fieldLink RX1 18 "CreditGame$Graph" "outCount" "[I", Cond.methodLink RX1 42 yX1_hasVertex, Cond.instanceMethod yX3_find, Cond.initialized RX3, Cond.selects RX3 yX3_find yX3_find, Cond.code yX3_find cX3_find 2 none, Cond.fieldLink RX3 26 "CreditGame$Values" "graph" "LCreditGame$Graph;", Cond.fieldLink RX3 18 "CreditGame$Values" "known" "[Z", Cond.fieldLink RX3 12 "CreditGame$Values" "path" "LCreditGame$Path;", Cond.fieldLink RX3 22 "CreditGame$Values" "parts" "[I", Cond.constant RX3 43 (-1000000), Cond.constant RX3 44 (1000000), Cond.instanceMethod yX2_clear, Cond.initialized RX2]
def wsL_reaches_r3 : List Cond := [Cond.selects RX2 yX2_clear yX2_clear, Cond.code yX2_clear cX2_clear 1 none, Cond.fieldLink RX2 9 "CreditGame$Path" "steps" "[I", Cond.methodLink RX2 18 yJ7_fill_53178, Cond.static yJ7_fill_53178, Cond.initialized RJ7, Cond.code yJ7_fill_53178 cJ7_fill_53178 4 none, Cond.methodLink RX3 45 yX3_playAt, Cond.instanceMethod yX3_playAt, Cond.selects RX3 yX3_playAt yX3_playAt, Cond.code yX3_playAt cX3_playAt 7 (some .int), Cond.instanceMethod yX2_has, Cond.selects RX2 yX2_has yX2_has, Cond.code yX2_has cX2_has 2 (some .boolean), Cond.methodLink RX2 24 yX2_isPlace, Cond.instanceMethod yX2_isPlace, Cond.selects RX2 yX2_isPlace yX2_isPlace, Cond.code yX2_isPlace cX2_isPlace 2 (some .boolean), Cond.instanceMethod yX2_stepsTo, Cond.selects RX2 yX2_stepsTo yX2_stepsTo, Cond.code yX2_stepsTo cX2_stepsTo 2 (some .int), Cond.instanceMethod yX2_sumTo, Cond.selects RX2 yX2_sumTo yX2_sumTo, Cond.code yX2_sumTo cX2_sumTo 2 (some .int)]
def wsL_reaches_r4 : List Cond := [Cond.fieldLink RX2 15 "CreditGame$Path" "sums" "[I", Cond.methodLink RX3 71 yX3_loopParts, Cond.static yX3_loopParts, Cond.code yX3_loopParts cX3_loopParts 2 (some .int), Cond.instanceMethod yX2_enter, Cond.selects RX2 yX2_enter yX2_enter, Cond.code yX2_enter cX2_enter 4 none, Cond.instanceMethod yX1_ownerOf, Cond.selects RX1 yX1_ownerOf yX1_ownerOf, Cond.code yX1_ownerOf cX1_ownerOf 2 (some .int), Cond.fieldLink RX1 9 "CreditGame$Graph" "owner" "[I", Cond.methodLink RX3 81 yX3_greatestPay, Cond.instanceMethod yX3_greatestPay, Cond.selects RX3 yX3_greatestPay yX3_greatestPay, Cond.methodLink RX3 84 yX3_leastPay, Cond.instanceMethod yX3_leastPay, Cond.selects RX3 yX3_leastPay yX3_leastPay, Cond.instanceMethod yX2_leave, Cond.selects RX2 yX2_leave yX2_leave, Cond.code yX2_leave cX2_leave 2 none, Cond.code yX3_greatestPay cX3_greatestPay 11 (some .int), Cond.methodLink RX3 102 Lib.Math.max.name, Cond.static Lib.Math.max.name, Cond.initialized "java/lang/Math"]
def wsL_reaches_r5 : List Cond := [Cond.code Lib.Math.max.name Lib.Math.max.code 2 (some .int), Cond.instanceMethod yX1_wayFrom, Cond.selects RX1 yX1_wayFrom yX1_wayFrom, Cond.code yX1_wayFrom cX1_wayFrom 3 (some .int), Cond.fieldLink RX1 23 "CreditGame$Graph" "out" "[[I", Cond.instanceMethod yX1_targetOf, Cond.selects RX1 yX1_targetOf yX1_targetOf, Cond.code yX1_targetOf cX1_targetOf 2 (some .int), Cond.fieldLink RX1 29 "CreditGame$Graph" "target" "[I", Cond.instanceMethod yX1_weightOf, Cond.selects RX1 yX1_weightOf yX1_weightOf, Cond.code yX1_weightOf cX1_weightOf 2 (some .int), Cond.fieldLink RX1 32 "CreditGame$Graph" "weight" "[I", Cond.code yX3_leastPay cX3_leastPay 11 (some .int), Cond.methodLink RX3 107 Lib.Math.min.name, Cond.static Lib.Math.min.name, Cond.code Lib.Math.min.name Lib.Math.min.code 2 (some .int), Cond.instanceMethod yX3_order, Cond.selects RX3 yX3_order yX3_order, Cond.code yX3_order cX3_order 4 (some .int), Cond.methodLink RX3 49 yX3_partsOf, Cond.instanceMethod yX3_partsOf, Cond.selects RX3 yX3_partsOf yX3_partsOf, Cond.code yX3_partsOf cX3_partsOf 2 (some .int)]
def wsL_reaches_r6 : List Cond := [Cond.methodLink RX3 56 yJ6_compare_7cf53, Cond.static yJ6_compare_7cf53, Cond.initialized RJ6, Cond.code yJ6_compare_7cf53 cJ6_compare_7cf53 2 (some .int)]
def wsL_reaches : List Cond := .codeWith yL_reaches cL_reaches 6 (some .int) [(0, 19, 22, 13), (0, 19, 26, 15)] :: ((wsL_reaches_r1 ++ (wsL_reaches_r2 ++ (wsL_reaches_r3 ++ (wsL_reaches_r4 ++ (wsL_reaches_r5 ++ wsL_reaches_r6))))) ++ wsX40 ++ wsX10 ++ wsX30 ++ wsX20 ++ (vx_atS RX4 74 "java/lang/IllegalArgumentException" ["java/lang/RuntimeException", "java/lang/Exception"]).filter goodWord ++ (vx_atS RX4 57 "java/lang/IllegalStateException" ["java/lang/RuntimeException", "java/lang/Exception"]).filter goodWord)
def wsL_value_r1 : List Cond := [Cond.classLink RL 13 "java/lang/IllegalArgumentException", Cond.classLink RL 15 "java/lang/IllegalStateException", Cond.methodLink RL 35 yX4_value, Cond.instanceMethod yX4_value, Cond.selects RX4 yX4_value yX4_value, Cond.initialized RX4, Cond.code yX4_value cX4_value 3 (some .int), Cond.fieldLink RX4 21 "CreditGame" "values" "LCreditGame$Values;", Cond.methodLink RX4 67 yX4_checkVertex, Cond.instanceMethod yX4_checkVertex, Cond.selects RX4 yX4_checkVertex yX4_checkVertex, Cond.code yX4_checkVertex cX4_checkVertex 2 none, Cond.classLink RX4 70 "java/lang/IllegalArgumentException", Cond.initialized "java/lang/IllegalArgumentException", Cond.fieldLink RX4 10 "CreditGame" "graph" "LCreditGame$Graph;", Cond.instanceMethod yX1_hasVertex, Cond.initialized RX1, Cond.selects RX1 yX1_hasVertex yX1_hasVertex, Cond.code yX1_hasVertex cX1_hasVertex 2 (some .boolean), Cond.fieldLink RX1 35 "CreditGame$Graph" "vertexCount" "I", Cond.methodLink RX4 97 yX4_checkComplete, Cond.instanceMethod yX4_checkComplete, Cond.selects RX4 yX4_checkComplete yX4_checkComplete, Cond.code yX4_checkComplete cX4_checkComplete 1 none]
def wsL_value_r2 : List Cond := [Cond.classLink RX4 53 "java/lang/IllegalStateException", Cond.initialized "java/lang/IllegalStateException", Cond.instanceMethod yX1_isComplete, Cond.selects RX1 yX1_isComplete yX1_isComplete, Cond.code yX1_isComplete cX1_isComplete 2 (some .boolean), Cond.methodLink RX1 46 yX1_waysFrom, Cond.instanceMethod yX1_waysFrom, Cond.selects RX1 yX1_waysFrom yX1_waysFrom, Cond.code yX1_waysFrom cX1_waysFrom 2 (some .int), Cond.fieldLink RX1 15 "CreditGame$Graph" "fixedTo" "[I", Cond.fieldLink RX1 18 "CreditGame$Graph" "outCount" "[I", Cond.methodLink RX1 42 yX1_hasVertex, Cond.instanceMethod yX3_find, Cond.initialized RX3, Cond.selects RX3 yX3_find yX3_find, Cond.code yX3_find cX3_find 2 none, Cond.fieldLink RX3 26 "CreditGame$Values" "graph" "LCreditGame$Graph;", Cond.fieldLink RX3 18 "CreditGame$Values" "known" "[Z", Cond.fieldLink RX3 12 "CreditGame$Values" "path" "LCreditGame$Path;", Cond.fieldLink RX3 22 "CreditGame$Values" "parts" "[I", Cond.constant RX3 43 (-1000000), Cond.constant RX3 44 (1000000), Cond.instanceMethod yX2_clear, Cond.initialized RX2]
def wsL_value_r3 : List Cond := [Cond.selects RX2 yX2_clear yX2_clear, Cond.code yX2_clear cX2_clear 1 none, Cond.fieldLink RX2 9 "CreditGame$Path" "steps" "[I", Cond.methodLink RX2 18 yJ7_fill_53178, Cond.static yJ7_fill_53178, Cond.initialized RJ7, Cond.code yJ7_fill_53178 cJ7_fill_53178 4 none, Cond.methodLink RX3 45 yX3_playAt, Cond.instanceMethod yX3_playAt, Cond.selects RX3 yX3_playAt yX3_playAt, Cond.code yX3_playAt cX3_playAt 7 (some .int), Cond.instanceMethod yX2_has, Cond.selects RX2 yX2_has yX2_has, Cond.code yX2_has cX2_has 2 (some .boolean), Cond.methodLink RX2 24 yX2_isPlace, Cond.instanceMethod yX2_isPlace, Cond.selects RX2 yX2_isPlace yX2_isPlace, Cond.code yX2_isPlace cX2_isPlace 2 (some .boolean), Cond.instanceMethod yX2_stepsTo, Cond.selects RX2 yX2_stepsTo yX2_stepsTo, Cond.code yX2_stepsTo cX2_stepsTo 2 (some .int), Cond.instanceMethod yX2_sumTo, Cond.selects RX2 yX2_sumTo yX2_sumTo, Cond.code yX2_sumTo cX2_sumTo 2 (some .int)]
def wsL_value_r4 : List Cond := [Cond.fieldLink RX2 15 "CreditGame$Path" "sums" "[I", Cond.methodLink RX3 71 yX3_loopParts, Cond.static yX3_loopParts, Cond.code yX3_loopParts cX3_loopParts 2 (some .int), Cond.instanceMethod yX2_enter, Cond.selects RX2 yX2_enter yX2_enter, Cond.code yX2_enter cX2_enter 4 none, Cond.instanceMethod yX1_ownerOf, Cond.selects RX1 yX1_ownerOf yX1_ownerOf, Cond.code yX1_ownerOf cX1_ownerOf 2 (some .int), Cond.fieldLink RX1 9 "CreditGame$Graph" "owner" "[I", Cond.methodLink RX3 81 yX3_greatestPay, Cond.instanceMethod yX3_greatestPay, Cond.selects RX3 yX3_greatestPay yX3_greatestPay, Cond.methodLink RX3 84 yX3_leastPay, Cond.instanceMethod yX3_leastPay, Cond.selects RX3 yX3_leastPay yX3_leastPay, Cond.instanceMethod yX2_leave, Cond.selects RX2 yX2_leave yX2_leave, Cond.code yX2_leave cX2_leave 2 none, Cond.code yX3_greatestPay cX3_greatestPay 11 (some .int), Cond.methodLink RX3 102 Lib.Math.max.name, Cond.static Lib.Math.max.name, Cond.initialized "java/lang/Math"]
def wsL_value_r5 : List Cond := [Cond.code Lib.Math.max.name Lib.Math.max.code 2 (some .int), Cond.instanceMethod yX1_wayFrom, Cond.selects RX1 yX1_wayFrom yX1_wayFrom, Cond.code yX1_wayFrom cX1_wayFrom 3 (some .int), Cond.fieldLink RX1 23 "CreditGame$Graph" "out" "[[I", Cond.instanceMethod yX1_targetOf, Cond.selects RX1 yX1_targetOf yX1_targetOf, Cond.code yX1_targetOf cX1_targetOf 2 (some .int), Cond.fieldLink RX1 29 "CreditGame$Graph" "target" "[I", Cond.instanceMethod yX1_weightOf, Cond.selects RX1 yX1_weightOf yX1_weightOf, Cond.code yX1_weightOf cX1_weightOf 2 (some .int), Cond.fieldLink RX1 32 "CreditGame$Graph" "weight" "[I", Cond.code yX3_leastPay cX3_leastPay 11 (some .int), Cond.methodLink RX3 107 Lib.Math.min.name, Cond.static Lib.Math.min.name, Cond.code Lib.Math.min.name Lib.Math.min.code 2 (some .int), Cond.instanceMethod yX3_bottomOf, Cond.selects RX3 yX3_bottomOf yX3_bottomOf, Cond.code yX3_bottomOf cX3_bottomOf 3 (some .int), Cond.methodLink RX3 49 yX3_partsOf, Cond.instanceMethod yX3_partsOf, Cond.selects RX3 yX3_partsOf yX3_partsOf, Cond.code yX3_partsOf cX3_partsOf 2 (some .int)]
def wsL_value_r6 : List Cond := [Cond.instanceMethod yX3_topOf, Cond.selects RX3 yX3_topOf yX3_topOf, Cond.code yX3_topOf cX3_topOf 2 (some .int), Cond.methodLink RX3 53 yX3_bottomOf]
def wsL_value : List Cond := .codeWith yL_value cL_value 5 (some .int) [(0, 10, 13, 13), (0, 10, 17, 15)] :: ((wsL_value_r1 ++ (wsL_value_r2 ++ (wsL_value_r3 ++ (wsL_value_r4 ++ (wsL_value_r5 ++ wsL_value_r6))))) ++ wsX40 ++ wsX10 ++ wsX30 ++ wsX20 ++ (vx_atS RX4 74 "java/lang/IllegalArgumentException" ["java/lang/RuntimeException", "java/lang/Exception"]).filter goodWord ++ (vx_atS RX4 57 "java/lang/IllegalStateException" ["java/lang/RuntimeException", "java/lang/Exception"]).filter goodWord)
def wsL_best_r1 : List Cond := [Cond.classLink RL 13 "java/lang/IllegalArgumentException", Cond.classLink RL 15 "java/lang/IllegalStateException", Cond.methodLink RL 39 yX4_best, Cond.instanceMethod yX4_best, Cond.selects RX4 yX4_best yX4_best, Cond.initialized RX4, Cond.code yX4_best cX4_best 2 (some .int), Cond.fieldLink RX4 21 "CreditGame" "values" "LCreditGame$Values;", Cond.methodLink RX4 67 yX4_checkVertex, Cond.instanceMethod yX4_checkVertex, Cond.selects RX4 yX4_checkVertex yX4_checkVertex, Cond.code yX4_checkVertex cX4_checkVertex 2 none, Cond.classLink RX4 70 "java/lang/IllegalArgumentException", Cond.initialized "java/lang/IllegalArgumentException", Cond.fieldLink RX4 10 "CreditGame" "graph" "LCreditGame$Graph;", Cond.instanceMethod yX1_hasVertex, Cond.initialized RX1, Cond.selects RX1 yX1_hasVertex yX1_hasVertex, Cond.code yX1_hasVertex cX1_hasVertex 2 (some .boolean), Cond.fieldLink RX1 35 "CreditGame$Graph" "vertexCount" "I", Cond.methodLink RX4 97 yX4_checkComplete, Cond.instanceMethod yX4_checkComplete, Cond.selects RX4 yX4_checkComplete yX4_checkComplete, Cond.code yX4_checkComplete cX4_checkComplete 1 none]
def wsL_best_r2 : List Cond := [Cond.classLink RX4 53 "java/lang/IllegalStateException", Cond.initialized "java/lang/IllegalStateException", Cond.instanceMethod yX1_isComplete, Cond.selects RX1 yX1_isComplete yX1_isComplete, Cond.code yX1_isComplete cX1_isComplete 2 (some .boolean), Cond.methodLink RX1 46 yX1_waysFrom, Cond.instanceMethod yX1_waysFrom, Cond.selects RX1 yX1_waysFrom yX1_waysFrom, Cond.code yX1_waysFrom cX1_waysFrom 2 (some .int), Cond.fieldLink RX1 15 "CreditGame$Graph" "fixedTo" "[I", Cond.fieldLink RX1 18 "CreditGame$Graph" "outCount" "[I", Cond.methodLink RX1 42 yX1_hasVertex, Cond.instanceMethod yX3_findAll, Cond.initialized RX3, Cond.selects RX3 yX3_findAll yX3_findAll, Cond.code yX3_findAll cX3_findAll 2 none, Cond.methodLink RX3 30 yX3_find, Cond.instanceMethod yX3_find, Cond.selects RX3 yX3_find yX3_find, Cond.code yX3_find cX3_find 2 none, Cond.fieldLink RX3 26 "CreditGame$Values" "graph" "LCreditGame$Graph;", Cond.fieldLink RX3 18 "CreditGame$Values" "known" "[Z", Cond.fieldLink RX3 12 "CreditGame$Values" "path" "LCreditGame$Path;", Cond.fieldLink RX3 22 "CreditGame$Values" "parts" "[I"]
def wsL_best_r3 : List Cond := [Cond.constant RX3 43 (-1000000), Cond.constant RX3 44 (1000000), Cond.instanceMethod yX2_clear, Cond.initialized RX2, Cond.selects RX2 yX2_clear yX2_clear, Cond.code yX2_clear cX2_clear 1 none, Cond.fieldLink RX2 9 "CreditGame$Path" "steps" "[I", Cond.methodLink RX2 18 yJ7_fill_53178, Cond.static yJ7_fill_53178, Cond.initialized RJ7, Cond.code yJ7_fill_53178 cJ7_fill_53178 4 none, Cond.methodLink RX3 45 yX3_playAt, Cond.instanceMethod yX3_playAt, Cond.selects RX3 yX3_playAt yX3_playAt, Cond.code yX3_playAt cX3_playAt 7 (some .int), Cond.instanceMethod yX2_has, Cond.selects RX2 yX2_has yX2_has, Cond.code yX2_has cX2_has 2 (some .boolean), Cond.methodLink RX2 24 yX2_isPlace, Cond.instanceMethod yX2_isPlace, Cond.selects RX2 yX2_isPlace yX2_isPlace, Cond.code yX2_isPlace cX2_isPlace 2 (some .boolean), Cond.instanceMethod yX2_stepsTo, Cond.selects RX2 yX2_stepsTo yX2_stepsTo]
def wsL_best_r4 : List Cond := [Cond.code yX2_stepsTo cX2_stepsTo 2 (some .int), Cond.instanceMethod yX2_sumTo, Cond.selects RX2 yX2_sumTo yX2_sumTo, Cond.code yX2_sumTo cX2_sumTo 2 (some .int), Cond.fieldLink RX2 15 "CreditGame$Path" "sums" "[I", Cond.methodLink RX3 71 yX3_loopParts, Cond.static yX3_loopParts, Cond.code yX3_loopParts cX3_loopParts 2 (some .int), Cond.instanceMethod yX2_enter, Cond.selects RX2 yX2_enter yX2_enter, Cond.code yX2_enter cX2_enter 4 none, Cond.instanceMethod yX1_ownerOf, Cond.selects RX1 yX1_ownerOf yX1_ownerOf, Cond.code yX1_ownerOf cX1_ownerOf 2 (some .int), Cond.fieldLink RX1 9 "CreditGame$Graph" "owner" "[I", Cond.methodLink RX3 81 yX3_greatestPay, Cond.instanceMethod yX3_greatestPay, Cond.selects RX3 yX3_greatestPay yX3_greatestPay, Cond.methodLink RX3 84 yX3_leastPay, Cond.instanceMethod yX3_leastPay, Cond.selects RX3 yX3_leastPay yX3_leastPay, Cond.instanceMethod yX2_leave, Cond.selects RX2 yX2_leave yX2_leave, Cond.code yX2_leave cX2_leave 2 none]
def wsL_best_r5 : List Cond := [Cond.code yX3_greatestPay cX3_greatestPay 11 (some .int), Cond.methodLink RX3 102 Lib.Math.max.name, Cond.static Lib.Math.max.name, Cond.initialized "java/lang/Math", Cond.code Lib.Math.max.name Lib.Math.max.code 2 (some .int), Cond.instanceMethod yX1_wayFrom, Cond.selects RX1 yX1_wayFrom yX1_wayFrom, Cond.code yX1_wayFrom cX1_wayFrom 3 (some .int), Cond.fieldLink RX1 23 "CreditGame$Graph" "out" "[[I", Cond.instanceMethod yX1_targetOf, Cond.selects RX1 yX1_targetOf yX1_targetOf, Cond.code yX1_targetOf cX1_targetOf 2 (some .int), Cond.fieldLink RX1 29 "CreditGame$Graph" "target" "[I", Cond.instanceMethod yX1_weightOf, Cond.selects RX1 yX1_weightOf yX1_weightOf, Cond.code yX1_weightOf cX1_weightOf 2 (some .int), Cond.fieldLink RX1 32 "CreditGame$Graph" "weight" "[I", Cond.code yX3_leastPay cX3_leastPay 11 (some .int), Cond.methodLink RX3 107 Lib.Math.min.name, Cond.static Lib.Math.min.name, Cond.code Lib.Math.min.name Lib.Math.min.code 2 (some .int), Cond.methodLink RX4 126 yX4_bestEdge, Cond.instanceMethod yX4_bestEdge, Cond.selects RX4 yX4_bestEdge yX4_bestEdge]
def wsL_best_r6 : List Cond := [Cond.code yX4_bestEdge cX4_bestEdge 5 (some .int), Cond.fieldLink RX4 30 "CreditGame" "credits" "LCreditGame$Credits;", Cond.instanceMethod yX3_topOf, Cond.selects RX3 yX3_topOf yX3_topOf, Cond.code yX3_topOf cX3_topOf 2 (some .int), Cond.methodLink RX3 49 yX3_partsOf, Cond.instanceMethod yX3_partsOf, Cond.selects RX3 yX3_partsOf yX3_partsOf, Cond.code yX3_partsOf cX3_partsOf 2 (some .int), Cond.methodLink RX3 53 yX3_bottomOf, Cond.instanceMethod yX3_bottomOf, Cond.selects RX3 yX3_bottomOf yX3_bottomOf, Cond.code yX3_bottomOf cX3_bottomOf 3 (some .int), Cond.instanceMethod yX0_solve, Cond.initialized RX0, Cond.selects RX0 yX0_solve yX0_solve, Cond.code yX0_solve cX0_solve 8 none, Cond.fieldLink RX0 18 "CreditGame$Credits" "graph" "LCreditGame$Graph;", Cond.fieldLink RX0 15 "CreditGame$Credits" "gain" "[I", Cond.fieldLink RX0 9 "CreditGame$Credits" "need" "[I", Cond.fieldLink RX0 22 "CreditGame$Credits" "values" "LCreditGame$Values;", Cond.instanceMethod yX3_order, Cond.selects RX3 yX3_order yX3_order, Cond.code yX3_order cX3_order 4 (some .int)]
def wsL_best_r7 : List Cond := [Cond.methodLink RX3 56 yJ6_compare_7cf53, Cond.static yJ6_compare_7cf53, Cond.initialized RJ6, Cond.code yJ6_compare_7cf53 cJ6_compare_7cf53 2 (some .int), Cond.methodLink RX0 38 yX0_isGoodFor, Cond.instanceMethod yX0_isGoodFor, Cond.selects RX0 yX0_isGoodFor yX0_isGoodFor, Cond.code yX0_isGoodFor cX0_isGoodFor 3 (some .boolean), Cond.methodLink RX0 45 yX0_enoughAt, Cond.instanceMethod yX0_enoughAt, Cond.selects RX0 yX0_enoughAt yX0_enoughAt, Cond.code yX0_enoughAt cX0_enoughAt 8 (some .int), Cond.methodLink RX0 56 yX0_needBefore, Cond.instanceMethod yX0_needBefore, Cond.selects RX0 yX0_needBefore yX0_needBefore, Cond.code yX0_needBefore cX0_needBefore 3 (some .int), Cond.methodLink RX0 68 Lib.Math.max.name, Cond.methodLink RX0 62 yX0_needOf, Cond.instanceMethod yX0_needOf, Cond.selects RX0 yX0_needOf yX0_needOf, Cond.code yX0_needOf cX0_needOf 2 (some .int), Cond.methodLink RX0 65 yX0_gainOf, Cond.instanceMethod yX0_gainOf, Cond.selects RX0 yX0_gainOf yX0_gainOf]
def wsL_best_r8 : List Cond := [Cond.code yX0_gainOf cX0_gainOf 2 (some .int), Cond.instanceMethod yX0_allows, Cond.selects RX0 yX0_allows yX0_allows, Cond.code yX0_allows cX0_allows 4 (some .boolean)]
def wsL_best : List Cond := .codeWith yL_best cL_best 4 (some .int) [(0, 9, 12, 13), (0, 9, 15, 15)] :: ((wsL_best_r1 ++ (wsL_best_r2 ++ (wsL_best_r3 ++ (wsL_best_r4 ++ (wsL_best_r5 ++ (wsL_best_r6 ++ (wsL_best_r7 ++ wsL_best_r8))))))) ++ wsX40 ++ wsX10 ++ wsX30 ++ wsX20 ++ wsX00 ++ (vx_atS RX4 74 "java/lang/IllegalArgumentException" ["java/lang/RuntimeException", "java/lang/Exception"]).filter goodWord ++ (vx_atS RX4 57 "java/lang/IllegalStateException" ["java/lang/RuntimeException", "java/lang/Exception"]).filter goodWord)
def wsL_settle_r1 : List Cond := [Cond.classLink RL 13 "java/lang/IllegalArgumentException", Cond.classLink RL 15 "java/lang/IllegalStateException", Cond.methodLink RL 42 yX4_settle, Cond.instanceMethod yX4_settle, Cond.selects RX4 yX4_settle yX4_settle, Cond.initialized RX4, Cond.code yX4_settle cX4_settle 2 (some .int), Cond.fieldLink RX4 21 "CreditGame" "values" "LCreditGame$Values;", Cond.methodLink RX4 45 yX4_checkPlayer, Cond.instanceMethod yX4_checkPlayer, Cond.selects RX4 yX4_checkPlayer yX4_checkPlayer, Cond.code yX4_checkPlayer cX4_checkPlayer 2 none, Cond.classLink RX4 70 "java/lang/IllegalArgumentException", Cond.initialized "java/lang/IllegalArgumentException", Cond.methodLink RX4 97 yX4_checkComplete, Cond.instanceMethod yX4_checkComplete, Cond.selects RX4 yX4_checkComplete yX4_checkComplete, Cond.code yX4_checkComplete cX4_checkComplete 1 none, Cond.classLink RX4 53 "java/lang/IllegalStateException", Cond.initialized "java/lang/IllegalStateException", Cond.fieldLink RX4 10 "CreditGame" "graph" "LCreditGame$Graph;", Cond.instanceMethod yX1_isComplete, Cond.initialized RX1, Cond.selects RX1 yX1_isComplete yX1_isComplete]
def wsL_settle_r2 : List Cond := [Cond.code yX1_isComplete cX1_isComplete 2 (some .boolean), Cond.fieldLink RX1 35 "CreditGame$Graph" "vertexCount" "I", Cond.methodLink RX1 46 yX1_waysFrom, Cond.instanceMethod yX1_waysFrom, Cond.selects RX1 yX1_waysFrom yX1_waysFrom, Cond.code yX1_waysFrom cX1_waysFrom 2 (some .int), Cond.fieldLink RX1 15 "CreditGame$Graph" "fixedTo" "[I", Cond.fieldLink RX1 18 "CreditGame$Graph" "outCount" "[I", Cond.methodLink RX1 42 yX1_hasVertex, Cond.instanceMethod yX1_hasVertex, Cond.selects RX1 yX1_hasVertex yX1_hasVertex, Cond.code yX1_hasVertex cX1_hasVertex 2 (some .boolean), Cond.instanceMethod yX3_findAll, Cond.initialized RX3, Cond.selects RX3 yX3_findAll yX3_findAll, Cond.code yX3_findAll cX3_findAll 2 none, Cond.methodLink RX3 30 yX3_find, Cond.instanceMethod yX3_find, Cond.selects RX3 yX3_find yX3_find, Cond.code yX3_find cX3_find 2 none, Cond.fieldLink RX3 26 "CreditGame$Values" "graph" "LCreditGame$Graph;", Cond.fieldLink RX3 18 "CreditGame$Values" "known" "[Z", Cond.fieldLink RX3 12 "CreditGame$Values" "path" "LCreditGame$Path;", Cond.fieldLink RX3 22 "CreditGame$Values" "parts" "[I"]
def wsL_settle_r3 : List Cond := [Cond.constant RX3 43 (-1000000), Cond.constant RX3 44 (1000000), Cond.instanceMethod yX2_clear, Cond.initialized RX2, Cond.selects RX2 yX2_clear yX2_clear, Cond.code yX2_clear cX2_clear 1 none, Cond.fieldLink RX2 9 "CreditGame$Path" "steps" "[I", Cond.methodLink RX2 18 yJ7_fill_53178, Cond.static yJ7_fill_53178, Cond.initialized RJ7, Cond.code yJ7_fill_53178 cJ7_fill_53178 4 none, Cond.methodLink RX3 45 yX3_playAt, Cond.instanceMethod yX3_playAt, Cond.selects RX3 yX3_playAt yX3_playAt, Cond.code yX3_playAt cX3_playAt 7 (some .int), Cond.instanceMethod yX2_has, Cond.selects RX2 yX2_has yX2_has, Cond.code yX2_has cX2_has 2 (some .boolean), Cond.methodLink RX2 24 yX2_isPlace, Cond.instanceMethod yX2_isPlace, Cond.selects RX2 yX2_isPlace yX2_isPlace, Cond.code yX2_isPlace cX2_isPlace 2 (some .boolean), Cond.instanceMethod yX2_stepsTo, Cond.selects RX2 yX2_stepsTo yX2_stepsTo]
def wsL_settle_r4 : List Cond := [Cond.code yX2_stepsTo cX2_stepsTo 2 (some .int), Cond.instanceMethod yX2_sumTo, Cond.selects RX2 yX2_sumTo yX2_sumTo, Cond.code yX2_sumTo cX2_sumTo 2 (some .int), Cond.fieldLink RX2 15 "CreditGame$Path" "sums" "[I", Cond.methodLink RX3 71 yX3_loopParts, Cond.static yX3_loopParts, Cond.code yX3_loopParts cX3_loopParts 2 (some .int), Cond.instanceMethod yX2_enter, Cond.selects RX2 yX2_enter yX2_enter, Cond.code yX2_enter cX2_enter 4 none, Cond.instanceMethod yX1_ownerOf, Cond.selects RX1 yX1_ownerOf yX1_ownerOf, Cond.code yX1_ownerOf cX1_ownerOf 2 (some .int), Cond.fieldLink RX1 9 "CreditGame$Graph" "owner" "[I", Cond.methodLink RX3 81 yX3_greatestPay, Cond.instanceMethod yX3_greatestPay, Cond.selects RX3 yX3_greatestPay yX3_greatestPay, Cond.methodLink RX3 84 yX3_leastPay, Cond.instanceMethod yX3_leastPay, Cond.selects RX3 yX3_leastPay yX3_leastPay, Cond.instanceMethod yX2_leave, Cond.selects RX2 yX2_leave yX2_leave, Cond.code yX2_leave cX2_leave 2 none]
def wsL_settle_r5 : List Cond := [Cond.code yX3_greatestPay cX3_greatestPay 11 (some .int), Cond.methodLink RX3 102 Lib.Math.max.name, Cond.static Lib.Math.max.name, Cond.initialized "java/lang/Math", Cond.code Lib.Math.max.name Lib.Math.max.code 2 (some .int), Cond.instanceMethod yX1_wayFrom, Cond.selects RX1 yX1_wayFrom yX1_wayFrom, Cond.code yX1_wayFrom cX1_wayFrom 3 (some .int), Cond.fieldLink RX1 23 "CreditGame$Graph" "out" "[[I", Cond.instanceMethod yX1_targetOf, Cond.selects RX1 yX1_targetOf yX1_targetOf, Cond.code yX1_targetOf cX1_targetOf 2 (some .int), Cond.fieldLink RX1 29 "CreditGame$Graph" "target" "[I", Cond.instanceMethod yX1_weightOf, Cond.selects RX1 yX1_weightOf yX1_weightOf, Cond.code yX1_weightOf cX1_weightOf 2 (some .int), Cond.fieldLink RX1 32 "CreditGame$Graph" "weight" "[I", Cond.code yX3_leastPay cX3_leastPay 11 (some .int), Cond.methodLink RX3 107 Lib.Math.min.name, Cond.static Lib.Math.min.name, Cond.code Lib.Math.min.name Lib.Math.min.code 2 (some .int), Cond.methodLink RX4 129 yX4_chooseFor, Cond.instanceMethod yX4_chooseFor, Cond.selects RX4 yX4_chooseFor yX4_chooseFor]
def wsL_settle_r6 : List Cond := [Cond.code yX4_chooseFor cX4_chooseFor 4 none, Cond.fieldLink RX4 41 "CreditGame" "chosen" "[I", Cond.instanceMethod yX1_fixedOf, Cond.selects RX1 yX1_fixedOf yX1_fixedOf, Cond.code yX1_fixedOf cX1_fixedOf 2 (some .int), Cond.methodLink RX4 126 yX4_bestEdge, Cond.instanceMethod yX4_bestEdge, Cond.selects RX4 yX4_bestEdge yX4_bestEdge, Cond.code yX4_bestEdge cX4_bestEdge 5 (some .int), Cond.fieldLink RX4 30 "CreditGame" "credits" "LCreditGame$Credits;", Cond.instanceMethod yX3_topOf, Cond.selects RX3 yX3_topOf yX3_topOf, Cond.code yX3_topOf cX3_topOf 2 (some .int), Cond.methodLink RX3 49 yX3_partsOf, Cond.instanceMethod yX3_partsOf, Cond.selects RX3 yX3_partsOf yX3_partsOf, Cond.code yX3_partsOf cX3_partsOf 2 (some .int), Cond.methodLink RX3 53 yX3_bottomOf, Cond.instanceMethod yX3_bottomOf, Cond.selects RX3 yX3_bottomOf yX3_bottomOf, Cond.code yX3_bottomOf cX3_bottomOf 3 (some .int), Cond.instanceMethod yX0_solve, Cond.initialized RX0, Cond.selects RX0 yX0_solve yX0_solve]
def wsL_settle_r7 : List Cond := [Cond.code yX0_solve cX0_solve 8 none, Cond.fieldLink RX0 18 "CreditGame$Credits" "graph" "LCreditGame$Graph;", Cond.fieldLink RX0 15 "CreditGame$Credits" "gain" "[I", Cond.fieldLink RX0 9 "CreditGame$Credits" "need" "[I", Cond.fieldLink RX0 22 "CreditGame$Credits" "values" "LCreditGame$Values;", Cond.instanceMethod yX3_order, Cond.selects RX3 yX3_order yX3_order, Cond.code yX3_order cX3_order 4 (some .int), Cond.methodLink RX3 56 yJ6_compare_7cf53, Cond.static yJ6_compare_7cf53, Cond.initialized RJ6, Cond.code yJ6_compare_7cf53 cJ6_compare_7cf53 2 (some .int), Cond.methodLink RX0 38 yX0_isGoodFor, Cond.instanceMethod yX0_isGoodFor, Cond.selects RX0 yX0_isGoodFor yX0_isGoodFor, Cond.code yX0_isGoodFor cX0_isGoodFor 3 (some .boolean), Cond.methodLink RX0 45 yX0_enoughAt, Cond.instanceMethod yX0_enoughAt, Cond.selects RX0 yX0_enoughAt yX0_enoughAt, Cond.code yX0_enoughAt cX0_enoughAt 8 (some .int), Cond.methodLink RX0 56 yX0_needBefore, Cond.instanceMethod yX0_needBefore, Cond.selects RX0 yX0_needBefore yX0_needBefore, Cond.code yX0_needBefore cX0_needBefore 3 (some .int)]
def wsL_settle_r8 : List Cond := [Cond.methodLink RX0 68 Lib.Math.max.name, Cond.methodLink RX0 62 yX0_needOf, Cond.instanceMethod yX0_needOf, Cond.selects RX0 yX0_needOf yX0_needOf, Cond.code yX0_needOf cX0_needOf 2 (some .int), Cond.methodLink RX0 65 yX0_gainOf, Cond.instanceMethod yX0_gainOf, Cond.selects RX0 yX0_gainOf yX0_gainOf, Cond.code yX0_gainOf cX0_gainOf 2 (some .int), Cond.instanceMethod yX0_allows, Cond.selects RX0 yX0_allows yX0_allows, Cond.code yX0_allows cX0_allows 4 (some .boolean), Cond.instanceMethod yX3_forget, Cond.selects RX3 yX3_forget yX3_forget, Cond.code yX3_forget cX3_forget 2 none, Cond.methodLink RX4 132 yX4_fixChosen, Cond.instanceMethod yX4_fixChosen, Cond.selects RX4 yX4_fixChosen yX4_fixChosen, Cond.code yX4_fixChosen cX4_fixChosen 3 (some .int), Cond.instanceMethod yX1_setFixed, Cond.selects RX1 yX1_setFixed yX1_setFixed, Cond.code yX1_setFixed cX1_setFixed 3 none]
def wsL_settle : List Cond := .codeWith yL_settle cL_settle 4 (some .int) [(0, 9, 12, 13), (0, 9, 15, 15)] :: ((wsL_settle_r1 ++ (wsL_settle_r2 ++ (wsL_settle_r3 ++ (wsL_settle_r4 ++ (wsL_settle_r5 ++ (wsL_settle_r6 ++ (wsL_settle_r7 ++ wsL_settle_r8))))))) ++ wsX40 ++ wsX10 ++ wsX30 ++ wsX20 ++ wsX00 ++ (vx_atS RX4 74 "java/lang/IllegalArgumentException" ["java/lang/RuntimeException", "java/lang/Exception"]).filter goodWord ++ (vx_atS RX4 57 "java/lang/IllegalStateException" ["java/lang/RuntimeException", "java/lang/Exception"]).filter goodWord)
def wsL_walk_r1 : List Cond := [Cond.classLink RL 13 "java/lang/IllegalArgumentException", Cond.classLink RL 15 "java/lang/IllegalStateException", Cond.methodLink RL 45 yX4_walk, Cond.instanceMethod yX4_walk, Cond.selects RX4 yX4_walk yX4_walk, Cond.initialized RX4, Cond.code yX4_walk cX4_walk 3 (some .int), Cond.classLink RX4 70 "java/lang/IllegalArgumentException", Cond.initialized "java/lang/IllegalArgumentException", Cond.fieldLink RX4 21 "CreditGame" "values" "LCreditGame$Values;", Cond.methodLink RX4 67 yX4_checkVertex, Cond.instanceMethod yX4_checkVertex, Cond.selects RX4 yX4_checkVertex yX4_checkVertex, Cond.code yX4_checkVertex cX4_checkVertex 2 none, Cond.fieldLink RX4 10 "CreditGame" "graph" "LCreditGame$Graph;", Cond.instanceMethod yX1_hasVertex, Cond.initialized RX1, Cond.selects RX1 yX1_hasVertex yX1_hasVertex, Cond.code yX1_hasVertex cX1_hasVertex 2 (some .boolean), Cond.fieldLink RX1 35 "CreditGame$Graph" "vertexCount" "I", Cond.methodLink RX4 97 yX4_checkComplete, Cond.instanceMethod yX4_checkComplete, Cond.selects RX4 yX4_checkComplete yX4_checkComplete, Cond.code yX4_checkComplete cX4_checkComplete 1 none]
def wsL_walk_r2 : List Cond := [Cond.classLink RX4 53 "java/lang/IllegalStateException", Cond.initialized "java/lang/IllegalStateException", Cond.instanceMethod yX1_isComplete, Cond.selects RX1 yX1_isComplete yX1_isComplete, Cond.code yX1_isComplete cX1_isComplete 2 (some .boolean), Cond.methodLink RX1 46 yX1_waysFrom, Cond.instanceMethod yX1_waysFrom, Cond.selects RX1 yX1_waysFrom yX1_waysFrom, Cond.code yX1_waysFrom cX1_waysFrom 2 (some .int), Cond.fieldLink RX1 15 "CreditGame$Graph" "fixedTo" "[I", Cond.fieldLink RX1 18 "CreditGame$Graph" "outCount" "[I", Cond.methodLink RX1 42 yX1_hasVertex, Cond.instanceMethod yX3_findAll, Cond.initialized RX3, Cond.selects RX3 yX3_findAll yX3_findAll, Cond.code yX3_findAll cX3_findAll 2 none, Cond.methodLink RX3 30 yX3_find, Cond.instanceMethod yX3_find, Cond.selects RX3 yX3_find yX3_find, Cond.code yX3_find cX3_find 2 none, Cond.fieldLink RX3 26 "CreditGame$Values" "graph" "LCreditGame$Graph;", Cond.fieldLink RX3 18 "CreditGame$Values" "known" "[Z", Cond.fieldLink RX3 12 "CreditGame$Values" "path" "LCreditGame$Path;", Cond.fieldLink RX3 22 "CreditGame$Values" "parts" "[I"]
def wsL_walk_r3 : List Cond := [Cond.constant RX3 43 (-1000000), Cond.constant RX3 44 (1000000), Cond.instanceMethod yX2_clear, Cond.initialized RX2, Cond.selects RX2 yX2_clear yX2_clear, Cond.code yX2_clear cX2_clear 1 none, Cond.fieldLink RX2 9 "CreditGame$Path" "steps" "[I", Cond.methodLink RX2 18 yJ7_fill_53178, Cond.static yJ7_fill_53178, Cond.initialized RJ7, Cond.code yJ7_fill_53178 cJ7_fill_53178 4 none, Cond.methodLink RX3 45 yX3_playAt, Cond.instanceMethod yX3_playAt, Cond.selects RX3 yX3_playAt yX3_playAt, Cond.code yX3_playAt cX3_playAt 7 (some .int), Cond.instanceMethod yX2_has, Cond.selects RX2 yX2_has yX2_has, Cond.code yX2_has cX2_has 2 (some .boolean), Cond.methodLink RX2 24 yX2_isPlace, Cond.instanceMethod yX2_isPlace, Cond.selects RX2 yX2_isPlace yX2_isPlace, Cond.code yX2_isPlace cX2_isPlace 2 (some .boolean), Cond.instanceMethod yX2_stepsTo, Cond.selects RX2 yX2_stepsTo yX2_stepsTo]
def wsL_walk_r4 : List Cond := [Cond.code yX2_stepsTo cX2_stepsTo 2 (some .int), Cond.instanceMethod yX2_sumTo, Cond.selects RX2 yX2_sumTo yX2_sumTo, Cond.code yX2_sumTo cX2_sumTo 2 (some .int), Cond.fieldLink RX2 15 "CreditGame$Path" "sums" "[I", Cond.methodLink RX3 71 yX3_loopParts, Cond.static yX3_loopParts, Cond.code yX3_loopParts cX3_loopParts 2 (some .int), Cond.instanceMethod yX2_enter, Cond.selects RX2 yX2_enter yX2_enter, Cond.code yX2_enter cX2_enter 4 none, Cond.instanceMethod yX1_ownerOf, Cond.selects RX1 yX1_ownerOf yX1_ownerOf, Cond.code yX1_ownerOf cX1_ownerOf 2 (some .int), Cond.fieldLink RX1 9 "CreditGame$Graph" "owner" "[I", Cond.methodLink RX3 81 yX3_greatestPay, Cond.instanceMethod yX3_greatestPay, Cond.selects RX3 yX3_greatestPay yX3_greatestPay, Cond.methodLink RX3 84 yX3_leastPay, Cond.instanceMethod yX3_leastPay, Cond.selects RX3 yX3_leastPay yX3_leastPay, Cond.instanceMethod yX2_leave, Cond.selects RX2 yX2_leave yX2_leave, Cond.code yX2_leave cX2_leave 2 none]
def wsL_walk_r5 : List Cond := [Cond.code yX3_greatestPay cX3_greatestPay 11 (some .int), Cond.methodLink RX3 102 Lib.Math.max.name, Cond.static Lib.Math.max.name, Cond.initialized "java/lang/Math", Cond.code Lib.Math.max.name Lib.Math.max.code 2 (some .int), Cond.instanceMethod yX1_wayFrom, Cond.selects RX1 yX1_wayFrom yX1_wayFrom, Cond.code yX1_wayFrom cX1_wayFrom 3 (some .int), Cond.fieldLink RX1 23 "CreditGame$Graph" "out" "[[I", Cond.instanceMethod yX1_targetOf, Cond.selects RX1 yX1_targetOf yX1_targetOf, Cond.code yX1_targetOf cX1_targetOf 2 (some .int), Cond.fieldLink RX1 29 "CreditGame$Graph" "target" "[I", Cond.instanceMethod yX1_weightOf, Cond.selects RX1 yX1_weightOf yX1_weightOf, Cond.code yX1_weightOf cX1_weightOf 2 (some .int), Cond.fieldLink RX1 32 "CreditGame$Graph" "weight" "[I", Cond.code yX3_leastPay cX3_leastPay 11 (some .int), Cond.methodLink RX3 107 Lib.Math.min.name, Cond.static Lib.Math.min.name, Cond.code Lib.Math.min.name Lib.Math.min.code 2 (some .int), Cond.methodLink RX4 138 yX4_tellWalk, Cond.instanceMethod yX4_tellWalk, Cond.selects RX4 yX4_tellWalk yX4_tellWalk]
def wsL_walk_r6 : List Cond := [Cond.code yX4_tellWalk cX4_tellWalk 7 (some .int), Cond.fieldLink RX4 37 "CreditGame" "walked" "LCreditGame$Path;", Cond.methodLink RX4 126 yX4_bestEdge, Cond.instanceMethod yX4_bestEdge, Cond.selects RX4 yX4_bestEdge yX4_bestEdge, Cond.code yX4_bestEdge cX4_bestEdge 5 (some .int), Cond.fieldLink RX4 30 "CreditGame" "credits" "LCreditGame$Credits;", Cond.instanceMethod yX3_topOf, Cond.selects RX3 yX3_topOf yX3_topOf, Cond.code yX3_topOf cX3_topOf 2 (some .int), Cond.methodLink RX3 49 yX3_partsOf, Cond.instanceMethod yX3_partsOf, Cond.selects RX3 yX3_partsOf yX3_partsOf, Cond.code yX3_partsOf cX3_partsOf 2 (some .int), Cond.methodLink RX3 53 yX3_bottomOf, Cond.instanceMethod yX3_bottomOf, Cond.selects RX3 yX3_bottomOf yX3_bottomOf, Cond.code yX3_bottomOf cX3_bottomOf 3 (some .int), Cond.instanceMethod yX0_solve, Cond.initialized RX0, Cond.selects RX0 yX0_solve yX0_solve, Cond.code yX0_solve cX0_solve 8 none, Cond.fieldLink RX0 18 "CreditGame$Credits" "graph" "LCreditGame$Graph;", Cond.fieldLink RX0 15 "CreditGame$Credits" "gain" "[I"]
def wsL_walk_r7 : List Cond := [Cond.fieldLink RX0 9 "CreditGame$Credits" "need" "[I", Cond.fieldLink RX0 22 "CreditGame$Credits" "values" "LCreditGame$Values;", Cond.instanceMethod yX3_order, Cond.selects RX3 yX3_order yX3_order, Cond.code yX3_order cX3_order 4 (some .int), Cond.methodLink RX3 56 yJ6_compare_7cf53, Cond.static yJ6_compare_7cf53, Cond.initialized RJ6, Cond.code yJ6_compare_7cf53 cJ6_compare_7cf53 2 (some .int), Cond.methodLink RX0 38 yX0_isGoodFor, Cond.instanceMethod yX0_isGoodFor, Cond.selects RX0 yX0_isGoodFor yX0_isGoodFor, Cond.code yX0_isGoodFor cX0_isGoodFor 3 (some .boolean), Cond.methodLink RX0 45 yX0_enoughAt, Cond.instanceMethod yX0_enoughAt, Cond.selects RX0 yX0_enoughAt yX0_enoughAt, Cond.code yX0_enoughAt cX0_enoughAt 8 (some .int), Cond.methodLink RX0 56 yX0_needBefore, Cond.instanceMethod yX0_needBefore, Cond.selects RX0 yX0_needBefore yX0_needBefore, Cond.code yX0_needBefore cX0_needBefore 3 (some .int), Cond.methodLink RX0 68 Lib.Math.max.name, Cond.methodLink RX0 62 yX0_needOf, Cond.instanceMethod yX0_needOf]
def wsL_walk_r8 : List Cond := [Cond.selects RX0 yX0_needOf yX0_needOf, Cond.code yX0_needOf cX0_needOf 2 (some .int), Cond.methodLink RX0 65 yX0_gainOf, Cond.instanceMethod yX0_gainOf, Cond.selects RX0 yX0_gainOf yX0_gainOf, Cond.code yX0_gainOf cX0_gainOf 2 (some .int), Cond.instanceMethod yX0_allows, Cond.selects RX0 yX0_allows yX0_allows, Cond.code yX0_allows cX0_allows 4 (some .boolean)]
def wsL_walk : List Cond := .codeWith yL_walk cL_walk 5 (some .int) [(0, 10, 13, 13), (0, 10, 17, 15)] :: ((wsL_walk_r1 ++ (wsL_walk_r2 ++ (wsL_walk_r3 ++ (wsL_walk_r4 ++ (wsL_walk_r5 ++ (wsL_walk_r6 ++ (wsL_walk_r7 ++ wsL_walk_r8))))))) ++ wsX40 ++ wsX10 ++ wsX30 ++ wsX20 ++ wsX00 ++ (vx_atS RX4 74 "java/lang/IllegalArgumentException" ["java/lang/RuntimeException", "java/lang/Exception"]).filter goodWord ++ (vx_atS RX4 57 "java/lang/IllegalStateException" ["java/lang/RuntimeException", "java/lang/Exception"]).filter goodWord)
def wsL_law0_r1 : List Cond := [Cond.classLink RL 8 RX4, Cond.instantiable RX4 5, Cond.initialized RX4, Cond.classLink RL 50 RX5, Cond.instantiable RX5 16, Cond.initialized RX5, Cond.arrayClass .long, Cond.methodLink RL 49 yX4_init, Cond.instanceMethod yX4_init, Cond.code yX4_init cX4_init 1 none, Cond.methodLink RX4 1 objectInit, Cond.instanceMethod objectInit, Cond.code objectInit ⟨#[0xb1]⟩ 1 none, Cond.classLink RX4 7 RX1, Cond.instantiable RX1 9, Cond.initialized RX1, Cond.fieldLink RX4 10 "CreditGame" "graph" "LCreditGame$Graph;", Cond.classLink RX4 16 RX3, Cond.instantiable RX3 4, Cond.initialized RX3, Cond.fieldLink RX4 21 "CreditGame" "values" "LCreditGame$Values;", Cond.classLink RX4 25 RX0, Cond.instantiable RX0 4, Cond.initialized RX0]
def wsL_law0_r2 : List Cond := [Cond.fieldLink RX4 30 "CreditGame" "credits" "LCreditGame$Credits;", Cond.classLink RX4 34 RX2, Cond.instantiable RX2 2, Cond.initialized RX2, Cond.fieldLink RX4 37 "CreditGame" "walked" "LCreditGame$Path;", Cond.arrayClass .int, Cond.fieldLink RX4 41 "CreditGame" "chosen" "[I", Cond.instanceMethod yX1_init, Cond.code yX1_init cX1_init 1 none, Cond.methodLink RX1 3 objectInit, Cond.fieldLink RX1 9 "CreditGame$Graph" "owner" "[I", Cond.fieldLink RX1 15 "CreditGame$Graph" "fixedTo" "[I", Cond.fieldLink RX1 18 "CreditGame$Graph" "outCount" "[I", Cond.classLink RX1 21 "[[I", Cond.fieldLink RX1 23 "CreditGame$Graph" "out" "[[I", Cond.fieldLink RX1 26 "CreditGame$Graph" "source" "[I", Cond.fieldLink RX1 29 "CreditGame$Graph" "target" "[I", Cond.fieldLink RX1 32 "CreditGame$Graph" "weight" "[I", Cond.fieldLink RX1 35 "CreditGame$Graph" "vertexCount" "I", Cond.fieldLink RX1 39 "CreditGame$Graph" "edgeCount" "I", Cond.instanceMethod yX3_init, Cond.code yX3_init cX3_init 2 none, Cond.methodLink RX3 3 objectInit, Cond.classLink RX3 9 RX2]
def wsL_law0_r3 : List Cond := [Cond.fieldLink RX3 12 "CreditGame$Values" "path" "LCreditGame$Path;", Cond.arrayClass .boolean, Cond.fieldLink RX3 18 "CreditGame$Values" "known" "[Z", Cond.fieldLink RX3 22 "CreditGame$Values" "parts" "[I", Cond.fieldLink RX3 26 "CreditGame$Values" "graph" "LCreditGame$Graph;", Cond.instanceMethod yX2_init, Cond.code yX2_init cX2_init 1 none, Cond.methodLink RX2 3 objectInit, Cond.fieldLink RX2 9 "CreditGame$Path" "steps" "[I", Cond.fieldLink RX2 15 "CreditGame$Path" "sums" "[I", Cond.instanceMethod yX0_init, Cond.code yX0_init cX0_init 3 none, Cond.methodLink RX0 3 objectInit, Cond.fieldLink RX0 9 "CreditGame$Credits" "need" "[I", Cond.fieldLink RX0 15 "CreditGame$Credits" "gain" "[I", Cond.fieldLink RX0 18 "CreditGame$Credits" "graph" "LCreditGame$Graph;", Cond.fieldLink RX0 22 "CreditGame$Credits" "values" "LCreditGame$Values;", Cond.methodLink RL 52 yX5_init, Cond.instanceMethod yX5_init, Cond.code yX5_init cX5_init 1 none, Cond.methodLink RX5 1 objectInit, Cond.fieldLink RX5 7 "CreditGameModel" "player" "[I", Cond.fieldLink RX5 13 "CreditGameModel" "fixedTo" "[I", Cond.fieldLink RX5 16 "CreditGameModel" "from" "[I"]
def wsL_law0_r4 : List Cond := [Cond.fieldLink RX5 19 "CreditGameModel" "to" "[I", Cond.fieldLink RX5 22 "CreditGameModel" "weight" "[I", Cond.fieldLink RX5 25 "CreditGameModel" "above" "[I", Cond.fieldLink RX5 28 "CreditGameModel" "below" "[I", Cond.fieldLink RX5 31 "CreditGameModel" "now" "[J", Cond.fieldLink RX5 35 "CreditGameModel" "then" "[J", Cond.fieldLink RX5 38 "CreditGameModel" "needs" "[I", Cond.fieldLink RX5 41 "CreditGameModel" "more" "[I", Cond.fieldLink RX5 44 "CreditGameModel" "chosen" "[I", Cond.methodLink RL 53 yL_vertex, Cond.static yL_vertex, Cond.initialized RL, Cond.codeWith yL_vertex cL_vertex 4 (some .int) [(0, 9, 12, 13), (0, 9, 15, 15)], Cond.classLink RL 13 "java/lang/IllegalArgumentException", Cond.classLink RL 15 "java/lang/IllegalStateException", Cond.methodLink RL 7 yX4_vertex, Cond.instanceMethod yX4_vertex, Cond.selects RX4 yX4_vertex yX4_vertex, Cond.code yX4_vertex cX4_vertex 2 (some .int), Cond.classLink RX4 53 "java/lang/IllegalStateException", Cond.initialized "java/lang/IllegalStateException", Cond.methodLink RX4 45 yX4_checkPlayer, Cond.instanceMethod yX4_checkPlayer, Cond.selects RX4 yX4_checkPlayer yX4_checkPlayer]
def wsL_law0_r5 : List Cond := [Cond.code yX4_checkPlayer cX4_checkPlayer 2 none, Cond.classLink RX4 70 "java/lang/IllegalArgumentException", Cond.initialized "java/lang/IllegalArgumentException", Cond.instanceMethod yX3_forget, Cond.selects RX3 yX3_forget yX3_forget, Cond.code yX3_forget cX3_forget 2 none, Cond.instanceMethod yX1_addVertex, Cond.selects RX1 yX1_addVertex yX1_addVertex, Cond.code yX1_addVertex cX1_addVertex 3 (some .int), Cond.methodLink RL 58 yX5_vertex, Cond.instanceMethod yX5_vertex, Cond.selects RX5 yX5_vertex yX5_vertex, Cond.code yX5_vertex cX5_vertex 2 (some .int), Cond.fieldLink RX5 51 "CreditGameModel" "vertices" "I", Cond.fieldLink RX5 47 "CreditGameModel" "thrown" "I", Cond.fieldLink RX5 61 "CreditGameModel" "known" "Z", Cond.methodLink RL 59 yX5_thrown, Cond.instanceMethod yX5_thrown, Cond.selects RX5 yX5_thrown yX5_thrown, Cond.code yX5_thrown cX5_thrown 1 (some .int), Cond.methodLink RL 63 yL_edge, Cond.static yL_edge, Cond.codeWith yL_edge cL_edge 6 (some .int) [(0, 12, 15, 13), (0, 12, 19, 15)], Cond.methodLink RL 17 yX4_edge]
def wsL_law0_r6 : List Cond := [Cond.instanceMethod yX4_edge, Cond.selects RX4 yX4_edge yX4_edge, Cond.code yX4_edge cX4_edge 4 (some .int), Cond.methodLink RX4 67 yX4_checkVertex, Cond.instanceMethod yX4_checkVertex, Cond.selects RX4 yX4_checkVertex yX4_checkVertex, Cond.code yX4_checkVertex cX4_checkVertex 2 none, Cond.instanceMethod yX1_hasVertex, Cond.selects RX1 yX1_hasVertex yX1_hasVertex, Cond.code yX1_hasVertex cX1_hasVertex 2 (some .boolean), Cond.instanceMethod yX1_addEdge, Cond.selects RX1 yX1_addEdge yX1_addEdge, Cond.code yX1_addEdge cX1_addEdge 6 (some .int), Cond.methodLink RX1 42 yX1_hasVertex, Cond.methodLink RL 66 yX5_edge, Cond.instanceMethod yX5_edge, Cond.selects RX5 yX5_edge yX5_edge, Cond.code yX5_edge cX5_edge 4 (some .int), Cond.fieldLink RX5 54 "CreditGameModel" "edges" "I", Cond.methodLink RX5 65 yX5_isVertex, Cond.instanceMethod yX5_isVertex, Cond.selects RX5 yX5_isVertex yX5_isVertex, Cond.code yX5_isVertex cX5_isVertex 2 (some .boolean), Cond.methodLink RL 67 yL_fix]
def wsL_law0_r7 : List Cond := [Cond.static yL_fix, Cond.codeWith yL_fix cL_fix 4 (some .int) [(0, 6, 9, 13)], Cond.methodLink RL 21 yX4_fix, Cond.instanceMethod yX4_fix, Cond.selects RX4 yX4_fix yX4_fix, Cond.code yX4_fix cX4_fix 3 none, Cond.instanceMethod yX1_isFrom, Cond.selects RX1 yX1_isFrom yX1_isFrom, Cond.code yX1_isFrom cX1_isFrom 3 (some .boolean), Cond.instanceMethod yX1_setFixed, Cond.selects RX1 yX1_setFixed yX1_setFixed, Cond.code yX1_setFixed cX1_setFixed 3 none, Cond.methodLink RL 70 yX5_fix, Cond.instanceMethod yX5_fix, Cond.selects RX5 yX5_fix yX5_fix, Cond.code yX5_fix cX5_fix 3 none, Cond.methodLink RL 71 yL_fixed, Cond.static yL_fixed, Cond.codeWith yL_fixed cL_fixed 4 (some .int) [(0, 9, 12, 13)], Cond.methodLink RL 25 yX4_fixed, Cond.instanceMethod yX4_fixed, Cond.selects RX4 yX4_fixed yX4_fixed, Cond.code yX4_fixed cX4_fixed 2 (some .int), Cond.instanceMethod yX1_fixedOf]
def wsL_law0_r8 : List Cond := [Cond.selects RX1 yX1_fixedOf yX1_fixedOf, Cond.code yX1_fixedOf cX1_fixedOf 2 (some .int), Cond.methodLink RL 73 yX5_fixed, Cond.instanceMethod yX5_fixed, Cond.selects RX5 yX5_fixed yX5_fixed, Cond.code yX5_fixed cX5_fixed 2 (some .int), Cond.methodLink RL 74 yL_credit, Cond.static yL_credit, Cond.codeWith yL_credit cL_credit 4 (some .int) [(0, 9, 12, 13), (0, 9, 15, 15)], Cond.methodLink RL 28 yX4_credit, Cond.instanceMethod yX4_credit, Cond.selects RX4 yX4_credit yX4_credit, Cond.code yX4_credit cX4_credit 2 (some .int), Cond.methodLink RX4 97 yX4_checkComplete, Cond.instanceMethod yX4_checkComplete, Cond.selects RX4 yX4_checkComplete yX4_checkComplete, Cond.code yX4_checkComplete cX4_checkComplete 1 none, Cond.instanceMethod yX1_isComplete, Cond.selects RX1 yX1_isComplete yX1_isComplete, Cond.code yX1_isComplete cX1_isComplete 2 (some .boolean), Cond.methodLink RX1 46 yX1_waysFrom, Cond.instanceMethod yX1_waysFrom, Cond.selects RX1 yX1_waysFrom yX1_waysFrom, Cond.code yX1_waysFrom cX1_waysFrom 2 (some .int)]
def wsL_law0_r9 : List Cond := [Cond.instanceMethod yX3_findAll, Cond.selects RX3 yX3_findAll yX3_findAll, Cond.code yX3_findAll cX3_findAll 2 none, Cond.methodLink RX3 30 yX3_find, Cond.instanceMethod yX3_find, Cond.selects RX3 yX3_find yX3_find, Cond.code yX3_find cX3_find 2 none, Cond.constant RX3 43 (-1000000), Cond.constant RX3 44 (1000000), Cond.instanceMethod yX2_clear, Cond.selects RX2 yX2_clear yX2_clear, Cond.code yX2_clear cX2_clear 1 none, Cond.methodLink RX2 18 yJ7_fill_53178, Cond.static yJ7_fill_53178, Cond.initialized RJ7, Cond.code yJ7_fill_53178 cJ7_fill_53178 4 none, Cond.methodLink RX3 45 yX3_playAt, Cond.instanceMethod yX3_playAt, Cond.selects RX3 yX3_playAt yX3_playAt, Cond.code yX3_playAt cX3_playAt 7 (some .int), Cond.instanceMethod yX2_has, Cond.selects RX2 yX2_has yX2_has, Cond.code yX2_has cX2_has 2 (some .boolean), Cond.methodLink RX2 24 yX2_isPlace]
def wsL_law0_r10 : List Cond := [Cond.instanceMethod yX2_isPlace, Cond.selects RX2 yX2_isPlace yX2_isPlace, Cond.code yX2_isPlace cX2_isPlace 2 (some .boolean), Cond.instanceMethod yX2_stepsTo, Cond.selects RX2 yX2_stepsTo yX2_stepsTo, Cond.code yX2_stepsTo cX2_stepsTo 2 (some .int), Cond.instanceMethod yX2_sumTo, Cond.selects RX2 yX2_sumTo yX2_sumTo, Cond.code yX2_sumTo cX2_sumTo 2 (some .int), Cond.methodLink RX3 71 yX3_loopParts, Cond.static yX3_loopParts, Cond.code yX3_loopParts cX3_loopParts 2 (some .int), Cond.instanceMethod yX2_enter, Cond.selects RX2 yX2_enter yX2_enter, Cond.code yX2_enter cX2_enter 4 none, Cond.instanceMethod yX1_ownerOf, Cond.selects RX1 yX1_ownerOf yX1_ownerOf, Cond.code yX1_ownerOf cX1_ownerOf 2 (some .int), Cond.methodLink RX3 81 yX3_greatestPay, Cond.instanceMethod yX3_greatestPay, Cond.selects RX3 yX3_greatestPay yX3_greatestPay, Cond.methodLink RX3 84 yX3_leastPay, Cond.instanceMethod yX3_leastPay, Cond.selects RX3 yX3_leastPay yX3_leastPay]
def wsL_law0_r11 : List Cond := [Cond.instanceMethod yX2_leave, Cond.selects RX2 yX2_leave yX2_leave, Cond.code yX2_leave cX2_leave 2 none, Cond.code yX3_greatestPay cX3_greatestPay 11 (some .int), Cond.methodLink RX3 102 Lib.Math.max.name, Cond.static Lib.Math.max.name, Cond.initialized "java/lang/Math", Cond.code Lib.Math.max.name Lib.Math.max.code 2 (some .int), Cond.instanceMethod yX1_wayFrom, Cond.selects RX1 yX1_wayFrom yX1_wayFrom, Cond.code yX1_wayFrom cX1_wayFrom 3 (some .int), Cond.instanceMethod yX1_targetOf, Cond.selects RX1 yX1_targetOf yX1_targetOf, Cond.code yX1_targetOf cX1_targetOf 2 (some .int), Cond.instanceMethod yX1_weightOf, Cond.selects RX1 yX1_weightOf yX1_weightOf, Cond.code yX1_weightOf cX1_weightOf 2 (some .int), Cond.code yX3_leastPay cX3_leastPay 11 (some .int), Cond.methodLink RX3 107 Lib.Math.min.name, Cond.static Lib.Math.min.name, Cond.code Lib.Math.min.name Lib.Math.min.code 2 (some .int), Cond.instanceMethod yX0_solve, Cond.selects RX0 yX0_solve yX0_solve, Cond.code yX0_solve cX0_solve 8 none]
def wsL_law0_r12 : List Cond := [Cond.instanceMethod yX3_order, Cond.selects RX3 yX3_order yX3_order, Cond.code yX3_order cX3_order 4 (some .int), Cond.methodLink RX3 49 yX3_partsOf, Cond.instanceMethod yX3_partsOf, Cond.selects RX3 yX3_partsOf yX3_partsOf, Cond.code yX3_partsOf cX3_partsOf 2 (some .int), Cond.methodLink RX3 56 yJ6_compare_7cf53, Cond.static yJ6_compare_7cf53, Cond.initialized RJ6, Cond.code yJ6_compare_7cf53 cJ6_compare_7cf53 2 (some .int), Cond.methodLink RX0 38 yX0_isGoodFor, Cond.instanceMethod yX0_isGoodFor, Cond.selects RX0 yX0_isGoodFor yX0_isGoodFor, Cond.code yX0_isGoodFor cX0_isGoodFor 3 (some .boolean), Cond.methodLink RX0 45 yX0_enoughAt, Cond.instanceMethod yX0_enoughAt, Cond.selects RX0 yX0_enoughAt yX0_enoughAt, Cond.code yX0_enoughAt cX0_enoughAt 8 (some .int), Cond.methodLink RX0 56 yX0_needBefore, Cond.instanceMethod yX0_needBefore, Cond.selects RX0 yX0_needBefore yX0_needBefore, Cond.code yX0_needBefore cX0_needBefore 3 (some .int), Cond.methodLink RX0 68 Lib.Math.max.name]
def wsL_law0_r13 : List Cond := [Cond.methodLink RX0 62 yX0_needOf, Cond.instanceMethod yX0_needOf, Cond.selects RX0 yX0_needOf yX0_needOf, Cond.code yX0_needOf cX0_needOf 2 (some .int), Cond.methodLink RX0 65 yX0_gainOf, Cond.instanceMethod yX0_gainOf, Cond.selects RX0 yX0_gainOf yX0_gainOf, Cond.code yX0_gainOf cX0_gainOf 2 (some .int), Cond.methodLink RL 76 yX5_credit, Cond.instanceMethod yX5_credit, Cond.selects RX5 yX5_credit yX5_credit, Cond.code yX5_credit cX5_credit 2 (some .int), Cond.constant RX5 77 (1000000), Cond.methodLink RX5 78 yX5_refuses, Cond.instanceMethod yX5_refuses, Cond.selects RX5 yX5_refuses yX5_refuses, Cond.code yX5_refuses cX5_refuses 2 (some .boolean), Cond.methodLink RX5 69 yX5_isComplete, Cond.instanceMethod yX5_isComplete, Cond.selects RX5 yX5_isComplete yX5_isComplete, Cond.code yX5_isComplete cX5_isComplete 4 (some .boolean), Cond.methodLink RX5 57 yX5_leads, Cond.instanceMethod yX5_leads, Cond.selects RX5 yX5_leads yX5_leads]
def wsL_law0_r14 : List Cond := [Cond.code yX5_leads cX5_leads 3 (some .boolean), Cond.methodLink RX5 81 yX5_findNeeds, Cond.instanceMethod yX5_findNeeds, Cond.selects RX5 yX5_findNeeds yX5_findNeeds, Cond.code yX5_findNeeds cX5_findNeeds 8 none, Cond.methodLink RX5 73 yX5_need, Cond.instanceMethod yX5_need, Cond.selects RX5 yX5_need yX5_need, Cond.code yX5_need cX5_need 9 (some .int), Cond.methodLink RL 77 yL_reaches, Cond.static yL_reaches, Cond.codeWith yL_reaches cL_reaches 6 (some .int) [(0, 19, 22, 13), (0, 19, 26, 15)], Cond.methodLink RL 31 yX4_reaches, Cond.instanceMethod yX4_reaches, Cond.selects RX4 yX4_reaches yX4_reaches, Cond.code yX4_reaches cX4_reaches 4 (some .boolean), Cond.methodLink RL 79 yX5_reaches, Cond.instanceMethod yX5_reaches, Cond.selects RX5 yX5_reaches yX5_reaches, Cond.code yX5_reaches cX5_reaches 4 (some .boolean), Cond.methodLink RX5 97 yX5_findValues, Cond.instanceMethod yX5_findValues, Cond.selects RX5 yX5_findValues yX5_findValues, Cond.code yX5_findValues cX5_findValues 13 none]
def wsL_law0_r15 : List Cond := [Cond.constantLong RX5 85 (4), Cond.constantLong RX5 87 (9), Cond.methodLink RX5 89 yX5_nearest, Cond.instanceMethod yX5_nearest, Cond.selects RX5 yX5_nearest yX5_nearest, Cond.code yX5_nearest cX5_nearest 12 none, Cond.methodLink RX5 93 yX5_common, Cond.static yX5_common, Cond.code yX5_common cX5_common 5 (some .int), Cond.methodLink RL 80 yL_value, Cond.static yL_value, Cond.codeWith yL_value cL_value 5 (some .int) [(0, 10, 13, 13), (0, 10, 17, 15)], Cond.methodLink RL 35 yX4_value, Cond.instanceMethod yX4_value, Cond.selects RX4 yX4_value yX4_value, Cond.code yX4_value cX4_value 3 (some .int), Cond.instanceMethod yX3_bottomOf, Cond.selects RX3 yX3_bottomOf yX3_bottomOf, Cond.code yX3_bottomOf cX3_bottomOf 3 (some .int), Cond.instanceMethod yX3_topOf, Cond.selects RX3 yX3_topOf yX3_topOf, Cond.code yX3_topOf cX3_topOf 2 (some .int), Cond.methodLink RX3 53 yX3_bottomOf, Cond.methodLink RL 83 yX5_value]
def wsL_law0_r16 : List Cond := [Cond.instanceMethod yX5_value, Cond.selects RX5 yX5_value yX5_value, Cond.code yX5_value cX5_value 3 (some .int), Cond.methodLink RL 84 yL_best, Cond.static yL_best, Cond.codeWith yL_best cL_best 4 (some .int) [(0, 9, 12, 13), (0, 9, 15, 15)], Cond.methodLink RL 39 yX4_best, Cond.instanceMethod yX4_best, Cond.selects RX4 yX4_best yX4_best, Cond.code yX4_best cX4_best 2 (some .int), Cond.methodLink RX4 126 yX4_bestEdge, Cond.instanceMethod yX4_bestEdge, Cond.selects RX4 yX4_bestEdge yX4_bestEdge, Cond.code yX4_bestEdge cX4_bestEdge 5 (some .int), Cond.instanceMethod yX0_allows, Cond.selects RX0 yX0_allows yX0_allows, Cond.code yX0_allows cX0_allows 4 (some .boolean), Cond.methodLink RL 86 yX5_best, Cond.instanceMethod yX5_best, Cond.selects RX5 yX5_best yX5_best, Cond.code yX5_best cX5_best 2 (some .int), Cond.methodLink RX5 100 yX5_bestOf, Cond.instanceMethod yX5_bestOf, Cond.selects RX5 yX5_bestOf yX5_bestOf]
def wsL_law0_r17 : List Cond := [Cond.code yX5_bestOf cX5_bestOf 8 (some .int), Cond.methodLink RL 87 yL_settle, Cond.static yL_settle, Cond.codeWith yL_settle cL_settle 4 (some .int) [(0, 9, 12, 13), (0, 9, 15, 15)], Cond.methodLink RL 42 yX4_settle, Cond.instanceMethod yX4_settle, Cond.selects RX4 yX4_settle yX4_settle, Cond.code yX4_settle cX4_settle 2 (some .int), Cond.methodLink RX4 129 yX4_chooseFor, Cond.instanceMethod yX4_chooseFor, Cond.selects RX4 yX4_chooseFor yX4_chooseFor, Cond.code yX4_chooseFor cX4_chooseFor 4 none, Cond.methodLink RX4 132 yX4_fixChosen, Cond.instanceMethod yX4_fixChosen, Cond.selects RX4 yX4_fixChosen yX4_fixChosen, Cond.code yX4_fixChosen cX4_fixChosen 3 (some .int), Cond.methodLink RL 89 yX5_settle, Cond.instanceMethod yX5_settle, Cond.selects RX5 yX5_settle yX5_settle, Cond.code yX5_settle cX5_settle 4 (some .int), Cond.methodLink RL 90 yL_walk, Cond.static yL_walk, Cond.codeWith yL_walk cL_walk 5 (some .int) [(0, 10, 13, 13), (0, 10, 17, 15)], Cond.methodLink RL 45 yX4_walk]
def wsL_law0_r18 : List Cond := [Cond.instanceMethod yX4_walk, Cond.selects RX4 yX4_walk yX4_walk, Cond.code yX4_walk cX4_walk 3 (some .int), Cond.methodLink RX4 138 yX4_tellWalk, Cond.instanceMethod yX4_tellWalk, Cond.selects RX4 yX4_tellWalk yX4_tellWalk, Cond.code yX4_tellWalk cX4_tellWalk 7 (some .int), Cond.methodLink RL 93 yX5_walk, Cond.instanceMethod yX5_walk, Cond.selects RX5 yX5_walk yX5_walk, Cond.code yX5_walk cX5_walk 10 (some .int)]
def wsL_law0 : List Cond := (wsL_law0_r1 ++ (wsL_law0_r2 ++ (wsL_law0_r3 ++ (wsL_law0_r4 ++ (wsL_law0_r5 ++ (wsL_law0_r6 ++ (wsL_law0_r7 ++ (wsL_law0_r8 ++ (wsL_law0_r9 ++ (wsL_law0_r10 ++ (wsL_law0_r11 ++ (wsL_law0_r12 ++ (wsL_law0_r13 ++ (wsL_law0_r14 ++ (wsL_law0_r15 ++ (wsL_law0_r16 ++ (wsL_law0_r17 ++ wsL_law0_r18))))))))))))))))) ++ wsX40 ++ wsX50 ++ wsX10 ++ wsX30 ++ wsX00 ++ wsX20 ++ ([] : List Cond)
def wsL_law : List Cond := wsL_law0 ++ (vx_atS RX4 57 "java/lang/IllegalStateException" ["java/lang/RuntimeException", "java/lang/Exception"]).filter goodWord ++ (vx_atS RX4 74 "java/lang/IllegalArgumentException" ["java/lang/RuntimeException", "java/lang/Exception"]).filter goodWord
theorem inlX0 : ∀ w ∈ wsX00, w ∈ wsL_law := fun _ h => List.mem_append_left _ (List.mem_append_left _ (List.mem_append_left _ (List.mem_append_left _ (List.mem_append_right _ h))))
theorem inlX1 : ∀ w ∈ wsX10, w ∈ wsL_law := fun _ h => List.mem_append_left _ (List.mem_append_left _ (List.mem_append_left _ (List.mem_append_left _ (List.mem_append_left _ (List.mem_append_left _ (List.mem_append_right _ h))))))
theorem inlX2 : ∀ w ∈ wsX20, w ∈ wsL_law := fun _ h => List.mem_append_left _ (List.mem_append_left _ (List.mem_append_left _ (List.mem_append_right _ h)))
theorem inlX3 : ∀ w ∈ wsX30, w ∈ wsL_law := fun _ h => List.mem_append_left _ (List.mem_append_left _ (List.mem_append_left _ (List.mem_append_left _ (List.mem_append_left _ (List.mem_append_right _ h)))))
theorem inlX4 : ∀ w ∈ wsX40, w ∈ wsL_law := fun _ h => List.mem_append_left _ (List.mem_append_left _ (List.mem_append_left _ (List.mem_append_left _ (List.mem_append_left _ (List.mem_append_left _ (List.mem_append_left _ (List.mem_append_left _ (List.mem_append_right _ h))))))))
theorem inlX5 : ∀ w ∈ wsX50, w ∈ wsL_law := fun _ h => List.mem_append_left _ (List.mem_append_left _ (List.mem_append_left _ (List.mem_append_left _ (List.mem_append_left _ (List.mem_append_left _ (List.mem_append_left _ (List.mem_append_right _ h)))))))
theorem dX0_init_0 : decode cX0_init 0 = .ok (.aload_n 0, 1) := by decide +kernel
theorem dX0_init_1 : decode cX0_init 1 = .ok (.invokespecial 3, 3) := by decide +kernel
theorem dX0_init_4 : decode cX0_init 4 = .ok (.aload_n 0, 1) := by decide +kernel
theorem dX0_init_5 : decode cX0_init 5 = .ok (.bipush 7, 2) := by decide +kernel
theorem dX0_init_7 : decode cX0_init 7 = .ok (.newarray .int, 2) := by decide +kernel
theorem dX0_init_9 : decode cX0_init 9 = .ok (.putfield 9, 3) := by decide +kernel
theorem dX0_init_12 : decode cX0_init 12 = .ok (.aload_n 0, 1) := by decide +kernel
theorem dX0_init_13 : decode cX0_init 13 = .ok (.bipush 24, 2) := by decide +kernel
theorem dX0_init_15 : decode cX0_init 15 = .ok (.newarray .int, 2) := by decide +kernel
theorem dX0_init_17 : decode cX0_init 17 = .ok (.putfield 15, 3) := by decide +kernel
theorem dX0_init_20 : decode cX0_init 20 = .ok (.aload_n 0, 1) := by decide +kernel
theorem dX0_init_21 : decode cX0_init 21 = .ok (.aload_n 1, 1) := by decide +kernel
theorem dX0_init_22 : decode cX0_init 22 = .ok (.putfield 18, 3) := by decide +kernel
theorem dX0_init_25 : decode cX0_init 25 = .ok (.aload_n 0, 1) := by decide +kernel
theorem dX0_init_26 : decode cX0_init 26 = .ok (.aload_n 2, 1) := by decide +kernel
theorem dX0_init_27 : decode cX0_init 27 = .ok (.putfield 22, 3) := by decide +kernel
theorem dX0_init_30 : decode cX0_init 30 = .ok (.return_, 1) := by decide +kernel
set_option maxRecDepth 20000 in
theorem ggX0_solve_X1_weightOf : GoodIn wsX0_solve wsX1_weightOf := goodIn_r _ [8, 9, 75, 76, 77, 78, 79, 80, 81, 82, 83] (by decide +kernel) (by decide +kernel)
set_option maxRecDepth 20000 in
theorem gX0_solve_X1_weightOf_n26 : GoodIn wsX0_solve (wsX1_weightOf) := ggX0_solve_X1_weightOf
set_option maxRecDepth 20000 in
theorem ggX0_solve_X3_order : GoodIn wsX0_solve wsX3_order := goodIn_r _ [13, 14, 15, 16, 11, 17, 18, 19, 20, 6, 21, 22, 23, 24, 25, 26, 27, 84, 85, 86, 87, 75, 76, 77, 78, 79, 80, 81, 82, 83] (by decide +kernel) (by decide +kernel)
set_option maxRecDepth 20000 in
theorem gX0_solve_X3_order_n32 : GoodIn wsX0_solve (wsX3_order) := ggX0_solve_X3_order
set_option maxRecDepth 20000 in
theorem ggX0_solve_X0_isGoodFor : GoodIn wsX0_solve wsX0_isGoodFor := goodIn_r _ [32] (by decide +kernel) (by decide +kernel)
set_option maxRecDepth 20000 in
theorem gX0_solve_X0_isGoodFor : GoodIn wsX0_solve (wsV RX0 38 RX0 yX0_isGoodFor wsX0_isGoodFor) := goodIn_app (goodIn_of _ (by decide +kernel)) ggX0_solve_X0_isGoodFor
set_option maxRecDepth 20000 in
theorem ggX0_solve_X1_ownerOf : GoodIn wsX0_solve wsX1_ownerOf := goodIn_r _ [35, 36, 37, 20, 21, 6, 22, 23, 75, 76, 77, 78, 79, 80, 81, 82, 83] (by decide +kernel) (by decide +kernel)
set_option maxRecDepth 20000 in
theorem gX0_solve_X1_ownerOf_n42 : GoodIn wsX0_solve (wsX1_ownerOf) := ggX0_solve_X1_ownerOf
set_option maxRecDepth 20000 in
theorem ggX0_solve_X0_enoughAt : GoodIn wsX0_solve wsX0_enoughAt := goodIn_r _ [41, 1, 42, 6, 43, 44, 45, 46, 37, 20, 21, 22, 23, 47, 48, 49, 50, 51, 52, 53, 31, 54, 55, 56, 57, 58, 59, 60, 61, 62, 63, 64, 65, 66, 3, 67, 68, 69, 70, 2, 71, 72, 73, 74, 75, 76, 77, 78, 79, 80, 81, 82, 83] (by decide +kernel) (by decide +kernel)
set_option maxRecDepth 20000 in
theorem gX0_solve_X0_enoughAt : GoodIn wsX0_solve (wsV RX0 45 RX0 yX0_enoughAt wsX0_enoughAt) := goodIn_app (goodIn_of _ (by decide +kernel)) ggX0_solve_X0_enoughAt
theorem dX0_solve_0 : decode cX0_solve 0 = .ok (.iconst 0, 1) := by decide +kernel
theorem dX0_solve_1 : decode cX0_solve 1 = .ok (.istore 4, 2) := by decide +kernel
theorem dX0_solve_3 : decode cX0_solve 3 = .ok (.iload 4, 2) := by decide +kernel
theorem dX0_solve_5 : decode cX0_solve 5 = .ok (.bipush 24, 2) := by decide +kernel
theorem dX0_solve_7 : decode cX0_solve 7 = .ok (.if_icmp .ge 43, 3) := by decide +kernel
theorem dX0_solve_10 : decode cX0_solve 10 = .ok (.iload_n 3, 1) := by decide +kernel
theorem dX0_solve_11 : decode cX0_solve 11 = .ok (.aload_n 0, 1) := by decide +kernel
theorem dX0_solve_12 : decode cX0_solve 12 = .ok (.getfield 18, 3) := by decide +kernel
theorem dX0_solve_15 : decode cX0_solve 15 = .ok (.iload 4, 2) := by decide +kernel
theorem dX0_solve_17 : decode cX0_solve 17 = .ok (.invokevirtual 26, 3) := by decide +kernel
theorem dX0_solve_20 : decode cX0_solve 20 = .ok (.imul, 1) := by decide +kernel
theorem dX0_solve_21 : decode cX0_solve 21 = .ok (.iload_n 2, 1) := by decide +kernel
theorem dX0_solve_22 : decode cX0_solve 22 = .ok (.isub, 1) := by decide +kernel
theorem dX0_solve_23 : decode cX0_solve 23 = .ok (.istore 5, 2) := by decide +kernel
theorem dX0_solve_25 : decode cX0_solve 25 = .ok (.aload_n 0, 1) := by decide +kernel
theorem dX0_solve_26 : decode cX0_solve 26 = .ok (.getfield 15, 3) := by decide +kernel
theorem dX0_solve_29 : decode cX0_solve 29 = .ok (.iload 4, 2) := by decide +kernel
theorem dX0_solve_31 : decode cX0_solve 31 = .ok (.iload_n 1, 1) := by decide +kernel
theorem dX0_solve_32 : decode cX0_solve 32 = .ok (.ifCond .ne 8, 3) := by decide +kernel
theorem dX0_solve_35 : decode cX0_solve 35 = .ok (.iload 5, 2) := by decide +kernel
theorem dX0_solve_37 : decode cX0_solve 37 = .ok (.goto 6, 3) := by decide +kernel
theorem dX0_solve_40 : decode cX0_solve 40 = .ok (.iload 5, 2) := by decide +kernel
theorem dX0_solve_42 : decode cX0_solve 42 = .ok (.ineg, 1) := by decide +kernel
theorem dX0_solve_43 : decode cX0_solve 43 = .ok (.iastore, 1) := by decide +kernel
theorem dX0_solve_44 : decode cX0_solve 44 = .ok (.iinc 4 1, 3) := by decide +kernel
theorem dX0_solve_47 : decode cX0_solve 47 = .ok (.goto (-44), 3) := by decide +kernel
theorem dX0_solve_50 : decode cX0_solve 50 = .ok (.iconst 0, 1) := by decide +kernel
theorem dX0_solve_51 : decode cX0_solve 51 = .ok (.istore 4, 2) := by decide +kernel
theorem dX0_solve_53 : decode cX0_solve 53 = .ok (.iload 4, 2) := by decide +kernel
theorem dX0_solve_55 : decode cX0_solve 55 = .ok (.bipush 7, 2) := by decide +kernel
theorem dX0_solve_57 : decode cX0_solve 57 = .ok (.if_icmp .ge 40, 3) := by decide +kernel
theorem dX0_solve_60 : decode cX0_solve 60 = .ok (.aload_n 0, 1) := by decide +kernel
theorem dX0_solve_61 : decode cX0_solve 61 = .ok (.getfield 9, 3) := by decide +kernel
theorem dX0_solve_64 : decode cX0_solve 64 = .ok (.iload 4, 2) := by decide +kernel
theorem dX0_solve_66 : decode cX0_solve 66 = .ok (.aload_n 0, 1) := by decide +kernel
theorem dX0_solve_67 : decode cX0_solve 67 = .ok (.iload_n 1, 1) := by decide +kernel
theorem dX0_solve_68 : decode cX0_solve 68 = .ok (.aload_n 0, 1) := by decide +kernel
theorem dX0_solve_69 : decode cX0_solve 69 = .ok (.getfield 22, 3) := by decide +kernel
theorem dX0_solve_72 : decode cX0_solve 72 = .ok (.iload 4, 2) := by decide +kernel
theorem dX0_solve_74 : decode cX0_solve 74 = .ok (.iload_n 2, 1) := by decide +kernel
theorem dX0_solve_75 : decode cX0_solve 75 = .ok (.iload_n 3, 1) := by decide +kernel
theorem dX0_solve_76 : decode cX0_solve 76 = .ok (.invokevirtual 32, 3) := by decide +kernel
theorem dX0_solve_79 : decode cX0_solve 79 = .ok (.invokevirtual 38, 3) := by decide +kernel
theorem dX0_solve_82 : decode cX0_solve 82 = .ok (.ifCond .eq 7, 3) := by decide +kernel
theorem dX0_solve_85 : decode cX0_solve 85 = .ok (.iconst 0, 1) := by decide +kernel
theorem dX0_solve_86 : decode cX0_solve 86 = .ok (.goto 4, 3) := by decide +kernel
theorem dX0_solve_89 : decode cX0_solve 89 = .ok (.iconst (-1), 1) := by decide +kernel
theorem dX0_solve_90 : decode cX0_solve 90 = .ok (.iastore, 1) := by decide +kernel
theorem dX0_solve_91 : decode cX0_solve 91 = .ok (.iinc 4 1, 3) := by decide +kernel
theorem dX0_solve_94 : decode cX0_solve 94 = .ok (.goto (-41), 3) := by decide +kernel
theorem dX0_solve_97 : decode cX0_solve 97 = .ok (.iconst 1, 1) := by decide +kernel
theorem dX0_solve_98 : decode cX0_solve 98 = .ok (.istore 4, 2) := by decide +kernel
theorem dX0_solve_100 : decode cX0_solve 100 = .ok (.iconst 0, 1) := by decide +kernel
theorem dX0_solve_101 : decode cX0_solve 101 = .ok (.istore 5, 2) := by decide +kernel
theorem dX0_solve_103 : decode cX0_solve 103 = .ok (.iload 5, 2) := by decide +kernel
theorem dX0_solve_105 : decode cX0_solve 105 = .ok (.sipush 10000, 3) := by decide +kernel
theorem dX0_solve_108 : decode cX0_solve 108 = .ok (.if_icmp .ge 94, 3) := by decide +kernel
theorem dX0_solve_111 : decode cX0_solve 111 = .ok (.iload 4, 2) := by decide +kernel
theorem dX0_solve_113 : decode cX0_solve 113 = .ok (.ifCond .eq 89, 3) := by decide +kernel
theorem dX0_solve_116 : decode cX0_solve 116 = .ok (.iconst 0, 1) := by decide +kernel
theorem dX0_solve_117 : decode cX0_solve 117 = .ok (.istore 4, 2) := by decide +kernel
theorem dX0_solve_119 : decode cX0_solve 119 = .ok (.iconst 0, 1) := by decide +kernel
theorem dX0_solve_120 : decode cX0_solve 120 = .ok (.istore 6, 2) := by decide +kernel
theorem dX0_solve_122 : decode cX0_solve 122 = .ok (.iload 6, 2) := by decide +kernel
theorem dX0_solve_124 : decode cX0_solve 124 = .ok (.bipush 7, 2) := by decide +kernel
theorem dX0_solve_126 : decode cX0_solve 126 = .ok (.if_icmp .ge 70, 3) := by decide +kernel
theorem dX0_solve_129 : decode cX0_solve 129 = .ok (.aload_n 0, 1) := by decide +kernel
theorem dX0_solve_130 : decode cX0_solve 130 = .ok (.iload 6, 2) := by decide +kernel
theorem dX0_solve_132 : decode cX0_solve 132 = .ok (.aload_n 0, 1) := by decide +kernel
theorem dX0_solve_133 : decode cX0_solve 133 = .ok (.getfield 18, 3) := by decide +kernel
theorem dX0_solve_136 : decode cX0_solve 136 = .ok (.iload 6, 2) := by decide +kernel
theorem dX0_solve_138 : decode cX0_solve 138 = .ok (.invokevirtual 42, 3) := by decide +kernel
theorem dX0_solve_141 : decode cX0_solve 141 = .ok (.iload_n 1, 1) := by decide +kernel
theorem dX0_solve_142 : decode cX0_solve 142 = .ok (.if_icmp .ne 7, 3) := by decide +kernel
theorem dX0_solve_145 : decode cX0_solve 145 = .ok (.iconst 1, 1) := by decide +kernel
theorem dX0_solve_146 : decode cX0_solve 146 = .ok (.goto 4, 3) := by decide +kernel
theorem dX0_solve_149 : decode cX0_solve 149 = .ok (.iconst 0, 1) := by decide +kernel
theorem dX0_solve_150 : decode cX0_solve 150 = .ok (.invokevirtual 45, 3) := by decide +kernel
theorem dX0_solve_153 : decode cX0_solve 153 = .ok (.istore 7, 2) := by decide +kernel
theorem dX0_solve_155 : decode cX0_solve 155 = .ok (.aload_n 0, 1) := by decide +kernel
theorem dX0_solve_156 : decode cX0_solve 156 = .ok (.getfield 9, 3) := by decide +kernel
theorem dX0_solve_159 : decode cX0_solve 159 = .ok (.iload 6, 2) := by decide +kernel
theorem dX0_solve_161 : decode cX0_solve 161 = .ok (.iaload, 1) := by decide +kernel
theorem dX0_solve_162 : decode cX0_solve 162 = .ok (.iconst (-1), 1) := by decide +kernel
theorem dX0_solve_163 : decode cX0_solve 163 = .ok (.if_icmp .eq 27, 3) := by decide +kernel
theorem dX0_solve_166 : decode cX0_solve 166 = .ok (.iload 7, 2) := by decide +kernel
theorem dX0_solve_168 : decode cX0_solve 168 = .ok (.aload_n 0, 1) := by decide +kernel
theorem dX0_solve_169 : decode cX0_solve 169 = .ok (.getfield 9, 3) := by decide +kernel
theorem dX0_solve_172 : decode cX0_solve 172 = .ok (.iload 6, 2) := by decide +kernel
theorem dX0_solve_174 : decode cX0_solve 174 = .ok (.iaload, 1) := by decide +kernel
theorem dX0_solve_175 : decode cX0_solve 175 = .ok (.if_icmp .le 15, 3) := by decide +kernel
theorem dX0_solve_178 : decode cX0_solve 178 = .ok (.aload_n 0, 1) := by decide +kernel
theorem dX0_solve_179 : decode cX0_solve 179 = .ok (.getfield 9, 3) := by decide +kernel
theorem dX0_solve_182 : decode cX0_solve 182 = .ok (.iload 6, 2) := by decide +kernel
theorem dX0_solve_184 : decode cX0_solve 184 = .ok (.iload 7, 2) := by decide +kernel
theorem dX0_solve_186 : decode cX0_solve 186 = .ok (.iastore, 1) := by decide +kernel
theorem dX0_solve_187 : decode cX0_solve 187 = .ok (.iconst 1, 1) := by decide +kernel
theorem dX0_solve_188 : decode cX0_solve 188 = .ok (.istore 4, 2) := by decide +kernel
theorem dX0_solve_190 : decode cX0_solve 190 = .ok (.iinc 6 1, 3) := by decide +kernel
theorem dX0_solve_193 : decode cX0_solve 193 = .ok (.goto (-71), 3) := by decide +kernel
theorem dX0_solve_196 : decode cX0_solve 196 = .ok (.iinc 5 1, 3) := by decide +kernel
theorem dX0_solve_199 : decode cX0_solve 199 = .ok (.goto (-96), 3) := by decide +kernel
theorem dX0_solve_202 : decode cX0_solve 202 = .ok (.return_, 1) := by decide +kernel
theorem dX0_isGoodFor_0 : decode cX0_isGoodFor 0 = .ok (.iload_n 1, 1) := by decide +kernel
theorem dX0_isGoodFor_1 : decode cX0_isGoodFor 1 = .ok (.ifCond .ne 15, 3) := by decide +kernel
theorem dX0_isGoodFor_4 : decode cX0_isGoodFor 4 = .ok (.iload_n 2, 1) := by decide +kernel
theorem dX0_isGoodFor_5 : decode cX0_isGoodFor 5 = .ok (.ifCond .lt 7, 3) := by decide +kernel
theorem dX0_isGoodFor_8 : decode cX0_isGoodFor 8 = .ok (.iconst 1, 1) := by decide +kernel
theorem dX0_isGoodFor_9 : decode cX0_isGoodFor 9 = .ok (.goto 16, 3) := by decide +kernel
theorem dX0_isGoodFor_12 : decode cX0_isGoodFor 12 = .ok (.iconst 0, 1) := by decide +kernel
theorem dX0_isGoodFor_13 : decode cX0_isGoodFor 13 = .ok (.goto 12, 3) := by decide +kernel
theorem dX0_isGoodFor_16 : decode cX0_isGoodFor 16 = .ok (.iload_n 2, 1) := by decide +kernel
theorem dX0_isGoodFor_17 : decode cX0_isGoodFor 17 = .ok (.ifCond .gt 7, 3) := by decide +kernel
theorem dX0_isGoodFor_20 : decode cX0_isGoodFor 20 = .ok (.iconst 1, 1) := by decide +kernel
theorem dX0_isGoodFor_21 : decode cX0_isGoodFor 21 = .ok (.goto 4, 3) := by decide +kernel
theorem dX0_isGoodFor_24 : decode cX0_isGoodFor 24 = .ok (.iconst 0, 1) := by decide +kernel
theorem dX0_isGoodFor_25 : decode cX0_isGoodFor 25 = .ok (.ireturn, 1) := by decide +kernel
set_option maxRecDepth 20000 in
theorem ggX0_enoughAt_X1_waysFrom : GoodIn wsX0_enoughAt wsX1_waysFrom := goodIn_r _ [5, 6, 7, 8, 9, 10, 3, 11, 12, 44, 45, 46, 47, 48, 49, 50, 51, 52] (by decide +kernel) (by decide +kernel)
set_option maxRecDepth 20000 in
theorem gX0_enoughAt_X1_waysFrom_n49 : GoodIn wsX0_enoughAt (wsX1_waysFrom) := ggX0_enoughAt_X1_waysFrom
set_option maxRecDepth 20000 in
theorem ggX0_enoughAt_X1_wayFrom : GoodIn wsX0_enoughAt wsX1_wayFrom := goodIn_r _ [15, 7, 6, 16, 8, 9, 10, 3, 11, 12, 44, 45, 46, 47, 48, 49, 50, 51, 52] (by decide +kernel) (by decide +kernel)
set_option maxRecDepth 20000 in
theorem gX0_enoughAt_X1_wayFrom_n52 : GoodIn wsX0_enoughAt (wsX1_wayFrom) := ggX0_enoughAt_X1_wayFrom
set_option maxRecDepth 20000 in
theorem ggX0_enoughAt_X0_needBefore : GoodIn wsX0_enoughAt wsX0_needBefore := goodIn_r _ [21, 1, 22, 23, 24, 25, 26, 3, 27, 28, 29, 30, 31, 32, 20, 33, 34, 35, 36, 37, 38, 39, 40, 41, 42, 43, 44, 45, 46, 47, 48, 49, 50, 51, 52] (by decide +kernel) (by decide +kernel)
set_option maxRecDepth 20000 in
theorem gX0_enoughAt_X0_needBefore : GoodIn wsX0_enoughAt (wsV RX0 56 RX0 yX0_needBefore wsX0_needBefore) := goodIn_app (goodIn_of _ (by decide +kernel)) ggX0_enoughAt_X0_needBefore
theorem dX0_enoughAt_0 : decode cX0_enoughAt 0 = .ok (.iconst (-1), 1) := by decide +kernel
theorem dX0_enoughAt_1 : decode cX0_enoughAt 1 = .ok (.istore_n 3, 1) := by decide +kernel
theorem dX0_enoughAt_2 : decode cX0_enoughAt 2 = .ok (.aload_n 0, 1) := by decide +kernel
theorem dX0_enoughAt_3 : decode cX0_enoughAt 3 = .ok (.getfield 18, 3) := by decide +kernel
theorem dX0_enoughAt_6 : decode cX0_enoughAt 6 = .ok (.iload_n 1, 1) := by decide +kernel
theorem dX0_enoughAt_7 : decode cX0_enoughAt 7 = .ok (.invokevirtual 49, 3) := by decide +kernel
theorem dX0_enoughAt_10 : decode cX0_enoughAt 10 = .ok (.istore 4, 2) := by decide +kernel
theorem dX0_enoughAt_12 : decode cX0_enoughAt 12 = .ok (.iconst 0, 1) := by decide +kernel
theorem dX0_enoughAt_13 : decode cX0_enoughAt 13 = .ok (.istore 5, 2) := by decide +kernel
theorem dX0_enoughAt_15 : decode cX0_enoughAt 15 = .ok (.iload 5, 2) := by decide +kernel
theorem dX0_enoughAt_17 : decode cX0_enoughAt 17 = .ok (.iload 4, 2) := by decide +kernel
theorem dX0_enoughAt_19 : decode cX0_enoughAt 19 = .ok (.if_icmp .ge 75, 3) := by decide +kernel
theorem dX0_enoughAt_22 : decode cX0_enoughAt 22 = .ok (.aload_n 0, 1) := by decide +kernel
theorem dX0_enoughAt_23 : decode cX0_enoughAt 23 = .ok (.aload_n 0, 1) := by decide +kernel
theorem dX0_enoughAt_24 : decode cX0_enoughAt 24 = .ok (.getfield 18, 3) := by decide +kernel
theorem dX0_enoughAt_27 : decode cX0_enoughAt 27 = .ok (.iload_n 1, 1) := by decide +kernel
theorem dX0_enoughAt_28 : decode cX0_enoughAt 28 = .ok (.iload 5, 2) := by decide +kernel
theorem dX0_enoughAt_30 : decode cX0_enoughAt 30 = .ok (.invokevirtual 52, 3) := by decide +kernel
theorem dX0_enoughAt_33 : decode cX0_enoughAt 33 = .ok (.invokevirtual 56, 3) := by decide +kernel
theorem dX0_enoughAt_36 : decode cX0_enoughAt 36 = .ok (.istore 6, 2) := by decide +kernel
theorem dX0_enoughAt_38 : decode cX0_enoughAt 38 = .ok (.iload_n 2, 1) := by decide +kernel
theorem dX0_enoughAt_39 : decode cX0_enoughAt 39 = .ok (.ifCond .eq 17, 3) := by decide +kernel
theorem dX0_enoughAt_42 : decode cX0_enoughAt 42 = .ok (.iload 6, 2) := by decide +kernel
theorem dX0_enoughAt_44 : decode cX0_enoughAt 44 = .ok (.iload_n 3, 1) := by decide +kernel
theorem dX0_enoughAt_45 : decode cX0_enoughAt 45 = .ok (.if_icmp .ge 7, 3) := by decide +kernel
theorem dX0_enoughAt_48 : decode cX0_enoughAt 48 = .ok (.iconst 1, 1) := by decide +kernel
theorem dX0_enoughAt_49 : decode cX0_enoughAt 49 = .ok (.goto 18, 3) := by decide +kernel
theorem dX0_enoughAt_52 : decode cX0_enoughAt 52 = .ok (.iconst 0, 1) := by decide +kernel
theorem dX0_enoughAt_53 : decode cX0_enoughAt 53 = .ok (.goto 14, 3) := by decide +kernel
theorem dX0_enoughAt_56 : decode cX0_enoughAt 56 = .ok (.iload 6, 2) := by decide +kernel
theorem dX0_enoughAt_58 : decode cX0_enoughAt 58 = .ok (.iload_n 3, 1) := by decide +kernel
theorem dX0_enoughAt_59 : decode cX0_enoughAt 59 = .ok (.if_icmp .le 7, 3) := by decide +kernel
theorem dX0_enoughAt_62 : decode cX0_enoughAt 62 = .ok (.iconst 1, 1) := by decide +kernel
theorem dX0_enoughAt_63 : decode cX0_enoughAt 63 = .ok (.goto 4, 3) := by decide +kernel
theorem dX0_enoughAt_66 : decode cX0_enoughAt 66 = .ok (.iconst 0, 1) := by decide +kernel
theorem dX0_enoughAt_67 : decode cX0_enoughAt 67 = .ok (.istore 7, 2) := by decide +kernel
theorem dX0_enoughAt_69 : decode cX0_enoughAt 69 = .ok (.iload 6, 2) := by decide +kernel
theorem dX0_enoughAt_71 : decode cX0_enoughAt 71 = .ok (.iconst (-1), 1) := by decide +kernel
theorem dX0_enoughAt_72 : decode cX0_enoughAt 72 = .ok (.if_icmp .eq 16, 3) := by decide +kernel
theorem dX0_enoughAt_75 : decode cX0_enoughAt 75 = .ok (.iload_n 3, 1) := by decide +kernel
theorem dX0_enoughAt_76 : decode cX0_enoughAt 76 = .ok (.iconst (-1), 1) := by decide +kernel
theorem dX0_enoughAt_77 : decode cX0_enoughAt 77 = .ok (.if_icmp .eq 8, 3) := by decide +kernel
theorem dX0_enoughAt_80 : decode cX0_enoughAt 80 = .ok (.iload 7, 2) := by decide +kernel
theorem dX0_enoughAt_82 : decode cX0_enoughAt 82 = .ok (.ifCond .eq 6, 3) := by decide +kernel
theorem dX0_enoughAt_85 : decode cX0_enoughAt 85 = .ok (.iload 6, 2) := by decide +kernel
theorem dX0_enoughAt_87 : decode cX0_enoughAt 87 = .ok (.istore_n 3, 1) := by decide +kernel
theorem dX0_enoughAt_88 : decode cX0_enoughAt 88 = .ok (.iinc 5 1, 3) := by decide +kernel
theorem dX0_enoughAt_91 : decode cX0_enoughAt 91 = .ok (.goto (-76), 3) := by decide +kernel
theorem dX0_enoughAt_94 : decode cX0_enoughAt 94 = .ok (.iload_n 3, 1) := by decide +kernel
theorem dX0_enoughAt_95 : decode cX0_enoughAt 95 = .ok (.ireturn, 1) := by decide +kernel
set_option maxRecDepth 20000 in
theorem ggX0_needBefore_X1_targetOf : GoodIn wsX0_needBefore wsX1_targetOf := goodIn_r _ [9, 10, 26, 27, 28, 29, 30, 31, 32, 33, 34] (by decide +kernel) (by decide +kernel)
set_option maxRecDepth 20000 in
theorem gX0_needBefore_X1_targetOf_n59 : GoodIn wsX0_needBefore (wsX1_targetOf) := ggX0_needBefore_X1_targetOf
set_option maxRecDepth 20000 in
theorem ggX0_needBefore_X0_needOf : GoodIn wsX0_needBefore wsX0_needOf := goodIn_r _ [15, 16, 22, 23, 24, 25] (by decide +kernel) (by decide +kernel)
set_option maxRecDepth 20000 in
theorem gX0_needBefore_X0_needOf : GoodIn wsX0_needBefore (wsV RX0 62 RX0 yX0_needOf wsX0_needOf) := goodIn_app (goodIn_of _ (by decide +kernel)) ggX0_needBefore_X0_needOf
set_option maxRecDepth 20000 in
theorem ggX0_needBefore_X0_gainOf : GoodIn wsX0_needBefore wsX0_gainOf := goodIn_r _ [20, 21, 22, 23, 24, 25] (by decide +kernel) (by decide +kernel)
set_option maxRecDepth 20000 in
theorem gX0_needBefore_X0_gainOf : GoodIn wsX0_needBefore (wsV RX0 65 RX0 yX0_gainOf wsX0_gainOf) := goodIn_app (goodIn_of _ (by decide +kernel)) ggX0_needBefore_X0_gainOf
theorem dX0_needBefore_0 : decode cX0_needBefore 0 = .ok (.aload_n 0, 1) := by decide +kernel
theorem dX0_needBefore_1 : decode cX0_needBefore 1 = .ok (.aload_n 0, 1) := by decide +kernel
theorem dX0_needBefore_2 : decode cX0_needBefore 2 = .ok (.getfield 18, 3) := by decide +kernel
theorem dX0_needBefore_5 : decode cX0_needBefore 5 = .ok (.iload_n 1, 1) := by decide +kernel
theorem dX0_needBefore_6 : decode cX0_needBefore 6 = .ok (.invokevirtual 59, 3) := by decide +kernel
theorem dX0_needBefore_9 : decode cX0_needBefore 9 = .ok (.invokevirtual 62, 3) := by decide +kernel
theorem dX0_needBefore_12 : decode cX0_needBefore 12 = .ok (.istore_n 2, 1) := by decide +kernel
theorem dX0_needBefore_13 : decode cX0_needBefore 13 = .ok (.iload_n 2, 1) := by decide +kernel
theorem dX0_needBefore_14 : decode cX0_needBefore 14 = .ok (.iconst (-1), 1) := by decide +kernel
theorem dX0_needBefore_15 : decode cX0_needBefore 15 = .ok (.if_icmp .ne 7, 3) := by decide +kernel
theorem dX0_needBefore_18 : decode cX0_needBefore 18 = .ok (.iconst (-1), 1) := by decide +kernel
theorem dX0_needBefore_19 : decode cX0_needBefore 19 = .ok (.goto 14, 3) := by decide +kernel
theorem dX0_needBefore_22 : decode cX0_needBefore 22 = .ok (.iconst 0, 1) := by decide +kernel
theorem dX0_needBefore_23 : decode cX0_needBefore 23 = .ok (.iload_n 2, 1) := by decide +kernel
theorem dX0_needBefore_24 : decode cX0_needBefore 24 = .ok (.aload_n 0, 1) := by decide +kernel
theorem dX0_needBefore_25 : decode cX0_needBefore 25 = .ok (.iload_n 1, 1) := by decide +kernel
theorem dX0_needBefore_26 : decode cX0_needBefore 26 = .ok (.invokevirtual 65, 3) := by decide +kernel
theorem dX0_needBefore_29 : decode cX0_needBefore 29 = .ok (.isub, 1) := by decide +kernel
theorem dX0_needBefore_30 : decode cX0_needBefore 30 = .ok (.invokestatic 68, 3) := by decide +kernel
theorem dX0_needBefore_33 : decode cX0_needBefore 33 = .ok (.ireturn, 1) := by decide +kernel
set_option maxRecDepth 20000 in
theorem ggX0_allows_X1_targetOf : GoodIn wsX0_allows wsX1_targetOf := goodIn_r _ [5, 6, 22, 23, 24, 25, 26, 27, 28, 29, 30] (by decide +kernel) (by decide +kernel)
set_option maxRecDepth 20000 in
theorem gX0_allows_X1_targetOf_n59 : GoodIn wsX0_allows (wsX1_targetOf) := ggX0_allows_X1_targetOf
set_option maxRecDepth 20000 in
theorem ggX0_allows_X0_needOf : GoodIn wsX0_allows wsX0_needOf := goodIn_r _ [11, 12, 18, 19, 20, 21] (by decide +kernel) (by decide +kernel)
set_option maxRecDepth 20000 in
theorem gX0_allows_X0_needOf : GoodIn wsX0_allows (wsV RX0 62 RX0 yX0_needOf wsX0_needOf) := goodIn_app (goodIn_of _ (by decide +kernel)) ggX0_allows_X0_needOf
set_option maxRecDepth 20000 in
theorem ggX0_allows_X0_gainOf : GoodIn wsX0_allows wsX0_gainOf := goodIn_r _ [16, 17, 18, 19, 20, 21] (by decide +kernel) (by decide +kernel)
set_option maxRecDepth 20000 in
theorem gX0_allows_X0_gainOf : GoodIn wsX0_allows (wsV RX0 65 RX0 yX0_gainOf wsX0_gainOf) := goodIn_app (goodIn_of _ (by decide +kernel)) ggX0_allows_X0_gainOf
theorem dX0_allows_0 : decode cX0_allows 0 = .ok (.aload_n 0, 1) := by decide +kernel
theorem dX0_allows_1 : decode cX0_allows 1 = .ok (.aload_n 0, 1) := by decide +kernel
theorem dX0_allows_2 : decode cX0_allows 2 = .ok (.getfield 18, 3) := by decide +kernel
theorem dX0_allows_5 : decode cX0_allows 5 = .ok (.iload_n 2, 1) := by decide +kernel
theorem dX0_allows_6 : decode cX0_allows 6 = .ok (.invokevirtual 59, 3) := by decide +kernel
theorem dX0_allows_9 : decode cX0_allows 9 = .ok (.invokevirtual 62, 3) := by decide +kernel
theorem dX0_allows_12 : decode cX0_allows 12 = .ok (.istore_n 3, 1) := by decide +kernel
theorem dX0_allows_13 : decode cX0_allows 13 = .ok (.iload_n 3, 1) := by decide +kernel
theorem dX0_allows_14 : decode cX0_allows 14 = .ok (.iconst (-1), 1) := by decide +kernel
theorem dX0_allows_15 : decode cX0_allows 15 = .ok (.if_icmp .eq 22, 3) := by decide +kernel
theorem dX0_allows_18 : decode cX0_allows 18 = .ok (.aload_n 0, 1) := by decide +kernel
theorem dX0_allows_19 : decode cX0_allows 19 = .ok (.iload_n 1, 1) := by decide +kernel
theorem dX0_allows_20 : decode cX0_allows 20 = .ok (.invokevirtual 62, 3) := by decide +kernel
theorem dX0_allows_23 : decode cX0_allows 23 = .ok (.aload_n 0, 1) := by decide +kernel
theorem dX0_allows_24 : decode cX0_allows 24 = .ok (.iload_n 2, 1) := by decide +kernel
theorem dX0_allows_25 : decode cX0_allows 25 = .ok (.invokevirtual 65, 3) := by decide +kernel
theorem dX0_allows_28 : decode cX0_allows 28 = .ok (.iadd, 1) := by decide +kernel
theorem dX0_allows_29 : decode cX0_allows 29 = .ok (.iload_n 3, 1) := by decide +kernel
theorem dX0_allows_30 : decode cX0_allows 30 = .ok (.if_icmp .lt 7, 3) := by decide +kernel
theorem dX0_allows_33 : decode cX0_allows 33 = .ok (.iconst 1, 1) := by decide +kernel
theorem dX0_allows_34 : decode cX0_allows 34 = .ok (.goto 4, 3) := by decide +kernel
theorem dX0_allows_37 : decode cX0_allows 37 = .ok (.iconst 0, 1) := by decide +kernel
theorem dX0_allows_38 : decode cX0_allows 38 = .ok (.ireturn, 1) := by decide +kernel
theorem dX0_needOf_0 : decode cX0_needOf 0 = .ok (.iload_n 1, 1) := by decide +kernel
theorem dX0_needOf_1 : decode cX0_needOf 1 = .ok (.ifCond .lt 18, 3) := by decide +kernel
theorem dX0_needOf_4 : decode cX0_needOf 4 = .ok (.iload_n 1, 1) := by decide +kernel
theorem dX0_needOf_5 : decode cX0_needOf 5 = .ok (.bipush 7, 2) := by decide +kernel
theorem dX0_needOf_7 : decode cX0_needOf 7 = .ok (.if_icmp .ge 12, 3) := by decide +kernel
theorem dX0_needOf_10 : decode cX0_needOf 10 = .ok (.aload_n 0, 1) := by decide +kernel
theorem dX0_needOf_11 : decode cX0_needOf 11 = .ok (.getfield 9, 3) := by decide +kernel
theorem dX0_needOf_14 : decode cX0_needOf 14 = .ok (.iload_n 1, 1) := by decide +kernel
theorem dX0_needOf_15 : decode cX0_needOf 15 = .ok (.iaload, 1) := by decide +kernel
theorem dX0_needOf_16 : decode cX0_needOf 16 = .ok (.goto 4, 3) := by decide +kernel
theorem dX0_needOf_19 : decode cX0_needOf 19 = .ok (.iconst (-1), 1) := by decide +kernel
theorem dX0_needOf_20 : decode cX0_needOf 20 = .ok (.ireturn, 1) := by decide +kernel
theorem dX0_gainOf_0 : decode cX0_gainOf 0 = .ok (.iload_n 1, 1) := by decide +kernel
theorem dX0_gainOf_1 : decode cX0_gainOf 1 = .ok (.ifCond .lt 18, 3) := by decide +kernel
theorem dX0_gainOf_4 : decode cX0_gainOf 4 = .ok (.iload_n 1, 1) := by decide +kernel
theorem dX0_gainOf_5 : decode cX0_gainOf 5 = .ok (.bipush 24, 2) := by decide +kernel
theorem dX0_gainOf_7 : decode cX0_gainOf 7 = .ok (.if_icmp .ge 12, 3) := by decide +kernel
theorem dX0_gainOf_10 : decode cX0_gainOf 10 = .ok (.aload_n 0, 1) := by decide +kernel
theorem dX0_gainOf_11 : decode cX0_gainOf 11 = .ok (.getfield 15, 3) := by decide +kernel
theorem dX0_gainOf_14 : decode cX0_gainOf 14 = .ok (.iload_n 1, 1) := by decide +kernel
theorem dX0_gainOf_15 : decode cX0_gainOf 15 = .ok (.iaload, 1) := by decide +kernel
theorem dX0_gainOf_16 : decode cX0_gainOf 16 = .ok (.goto 4, 3) := by decide +kernel
theorem dX0_gainOf_19 : decode cX0_gainOf 19 = .ok (.iconst 0, 1) := by decide +kernel
theorem dX0_gainOf_20 : decode cX0_gainOf 20 = .ok (.ireturn, 1) := by decide +kernel
theorem dX1_init_0 : decode cX1_init 0 = .ok (.aload_n 0, 1) := by decide +kernel
theorem dX1_init_1 : decode cX1_init 1 = .ok (.invokespecial 3, 3) := by decide +kernel
theorem dX1_init_4 : decode cX1_init 4 = .ok (.aload_n 0, 1) := by decide +kernel
theorem dX1_init_5 : decode cX1_init 5 = .ok (.bipush 7, 2) := by decide +kernel
theorem dX1_init_7 : decode cX1_init 7 = .ok (.newarray .int, 2) := by decide +kernel
theorem dX1_init_9 : decode cX1_init 9 = .ok (.putfield 9, 3) := by decide +kernel
theorem dX1_init_12 : decode cX1_init 12 = .ok (.aload_n 0, 1) := by decide +kernel
theorem dX1_init_13 : decode cX1_init 13 = .ok (.bipush 7, 2) := by decide +kernel
theorem dX1_init_15 : decode cX1_init 15 = .ok (.newarray .int, 2) := by decide +kernel
theorem dX1_init_17 : decode cX1_init 17 = .ok (.putfield 15, 3) := by decide +kernel
theorem dX1_init_20 : decode cX1_init 20 = .ok (.aload_n 0, 1) := by decide +kernel
theorem dX1_init_21 : decode cX1_init 21 = .ok (.bipush 7, 2) := by decide +kernel
theorem dX1_init_23 : decode cX1_init 23 = .ok (.newarray .int, 2) := by decide +kernel
theorem dX1_init_25 : decode cX1_init 25 = .ok (.putfield 18, 3) := by decide +kernel
theorem dX1_init_28 : decode cX1_init 28 = .ok (.aload_n 0, 1) := by decide +kernel
theorem dX1_init_29 : decode cX1_init 29 = .ok (.bipush 7, 2) := by decide +kernel
theorem dX1_init_31 : decode cX1_init 31 = .ok (.bipush 24, 2) := by decide +kernel
theorem dX1_init_33 : decode cX1_init 33 = .ok (.multianewarray 21 2, 4) := by decide +kernel
theorem dX1_init_37 : decode cX1_init 37 = .ok (.putfield 23, 3) := by decide +kernel
theorem dX1_init_40 : decode cX1_init 40 = .ok (.aload_n 0, 1) := by decide +kernel
theorem dX1_init_41 : decode cX1_init 41 = .ok (.bipush 24, 2) := by decide +kernel
theorem dX1_init_43 : decode cX1_init 43 = .ok (.newarray .int, 2) := by decide +kernel
theorem dX1_init_45 : decode cX1_init 45 = .ok (.putfield 26, 3) := by decide +kernel
theorem dX1_init_48 : decode cX1_init 48 = .ok (.aload_n 0, 1) := by decide +kernel
theorem dX1_init_49 : decode cX1_init 49 = .ok (.bipush 24, 2) := by decide +kernel
theorem dX1_init_51 : decode cX1_init 51 = .ok (.newarray .int, 2) := by decide +kernel
theorem dX1_init_53 : decode cX1_init 53 = .ok (.putfield 29, 3) := by decide +kernel
theorem dX1_init_56 : decode cX1_init 56 = .ok (.aload_n 0, 1) := by decide +kernel
theorem dX1_init_57 : decode cX1_init 57 = .ok (.bipush 24, 2) := by decide +kernel
theorem dX1_init_59 : decode cX1_init 59 = .ok (.newarray .int, 2) := by decide +kernel
theorem dX1_init_61 : decode cX1_init 61 = .ok (.putfield 32, 3) := by decide +kernel
theorem dX1_init_64 : decode cX1_init 64 = .ok (.aload_n 0, 1) := by decide +kernel
theorem dX1_init_65 : decode cX1_init 65 = .ok (.iconst 0, 1) := by decide +kernel
theorem dX1_init_66 : decode cX1_init 66 = .ok (.putfield 35, 3) := by decide +kernel
theorem dX1_init_69 : decode cX1_init 69 = .ok (.aload_n 0, 1) := by decide +kernel
theorem dX1_init_70 : decode cX1_init 70 = .ok (.iconst 0, 1) := by decide +kernel
theorem dX1_init_71 : decode cX1_init 71 = .ok (.putfield 39, 3) := by decide +kernel
theorem dX1_init_74 : decode cX1_init 74 = .ok (.return_, 1) := by decide +kernel
theorem dX1_addVertex_0 : decode cX1_addVertex 0 = .ok (.aload_n 0, 1) := by decide +kernel
theorem dX1_addVertex_1 : decode cX1_addVertex 1 = .ok (.getfield 35, 3) := by decide +kernel
theorem dX1_addVertex_4 : decode cX1_addVertex 4 = .ok (.istore_n 2, 1) := by decide +kernel
theorem dX1_addVertex_5 : decode cX1_addVertex 5 = .ok (.iload_n 2, 1) := by decide +kernel
theorem dX1_addVertex_6 : decode cX1_addVertex 6 = .ok (.ifCond .lt 9, 3) := by decide +kernel
theorem dX1_addVertex_9 : decode cX1_addVertex 9 = .ok (.iload_n 2, 1) := by decide +kernel
theorem dX1_addVertex_10 : decode cX1_addVertex 10 = .ok (.bipush 7, 2) := by decide +kernel
theorem dX1_addVertex_12 : decode cX1_addVertex 12 = .ok (.if_icmp .lt 5, 3) := by decide +kernel
theorem dX1_addVertex_15 : decode cX1_addVertex 15 = .ok (.iconst (-1), 1) := by decide +kernel
theorem dX1_addVertex_16 : decode cX1_addVertex 16 = .ok (.ireturn, 1) := by decide +kernel
theorem dX1_addVertex_17 : decode cX1_addVertex 17 = .ok (.aload_n 0, 1) := by decide +kernel
theorem dX1_addVertex_18 : decode cX1_addVertex 18 = .ok (.getfield 9, 3) := by decide +kernel
theorem dX1_addVertex_21 : decode cX1_addVertex 21 = .ok (.iload_n 2, 1) := by decide +kernel
theorem dX1_addVertex_22 : decode cX1_addVertex 22 = .ok (.iload_n 1, 1) := by decide +kernel
theorem dX1_addVertex_23 : decode cX1_addVertex 23 = .ok (.iastore, 1) := by decide +kernel
theorem dX1_addVertex_24 : decode cX1_addVertex 24 = .ok (.aload_n 0, 1) := by decide +kernel
theorem dX1_addVertex_25 : decode cX1_addVertex 25 = .ok (.getfield 15, 3) := by decide +kernel
theorem dX1_addVertex_28 : decode cX1_addVertex 28 = .ok (.iload_n 2, 1) := by decide +kernel
theorem dX1_addVertex_29 : decode cX1_addVertex 29 = .ok (.iconst (-1), 1) := by decide +kernel
theorem dX1_addVertex_30 : decode cX1_addVertex 30 = .ok (.iastore, 1) := by decide +kernel
theorem dX1_addVertex_31 : decode cX1_addVertex 31 = .ok (.aload_n 0, 1) := by decide +kernel
theorem dX1_addVertex_32 : decode cX1_addVertex 32 = .ok (.iload_n 2, 1) := by decide +kernel
theorem dX1_addVertex_33 : decode cX1_addVertex 33 = .ok (.iconst 1, 1) := by decide +kernel
theorem dX1_addVertex_34 : decode cX1_addVertex 34 = .ok (.iadd, 1) := by decide +kernel
theorem dX1_addVertex_35 : decode cX1_addVertex 35 = .ok (.putfield 35, 3) := by decide +kernel
theorem dX1_addVertex_38 : decode cX1_addVertex 38 = .ok (.iload_n 2, 1) := by decide +kernel
theorem dX1_addVertex_39 : decode cX1_addVertex 39 = .ok (.ireturn, 1) := by decide +kernel
set_option maxRecDepth 20000 in
theorem ggX1_addEdge_X1_hasVertex : GoodIn wsX1_addEdge wsX1_hasVertex := goodIn_r _ [11, 12, 13, 14, 15, 16, 17, 18, 19, 20, 21] (by decide +kernel) (by decide +kernel)
set_option maxRecDepth 20000 in
theorem gX1_addEdge_X1_hasVertex : GoodIn wsX1_addEdge (wsV RX1 42 RX1 yX1_hasVertex wsX1_hasVertex) := goodIn_app (goodIn_of _ (by decide +kernel)) ggX1_addEdge_X1_hasVertex
theorem dX1_addEdge_0 : decode cX1_addEdge 0 = .ok (.aload_n 0, 1) := by decide +kernel
theorem dX1_addEdge_1 : decode cX1_addEdge 1 = .ok (.getfield 39, 3) := by decide +kernel
theorem dX1_addEdge_4 : decode cX1_addEdge 4 = .ok (.istore 4, 2) := by decide +kernel
theorem dX1_addEdge_6 : decode cX1_addEdge 6 = .ok (.iload 4, 2) := by decide +kernel
theorem dX1_addEdge_8 : decode cX1_addEdge 8 = .ok (.ifCond .lt 26, 3) := by decide +kernel
theorem dX1_addEdge_11 : decode cX1_addEdge 11 = .ok (.iload 4, 2) := by decide +kernel
theorem dX1_addEdge_13 : decode cX1_addEdge 13 = .ok (.bipush 24, 2) := by decide +kernel
theorem dX1_addEdge_15 : decode cX1_addEdge 15 = .ok (.if_icmp .ge 19, 3) := by decide +kernel
theorem dX1_addEdge_18 : decode cX1_addEdge 18 = .ok (.aload_n 0, 1) := by decide +kernel
theorem dX1_addEdge_19 : decode cX1_addEdge 19 = .ok (.iload_n 1, 1) := by decide +kernel
theorem dX1_addEdge_20 : decode cX1_addEdge 20 = .ok (.invokevirtual 42, 3) := by decide +kernel
theorem dX1_addEdge_23 : decode cX1_addEdge 23 = .ok (.ifCond .eq 11, 3) := by decide +kernel
theorem dX1_addEdge_26 : decode cX1_addEdge 26 = .ok (.aload_n 0, 1) := by decide +kernel
theorem dX1_addEdge_27 : decode cX1_addEdge 27 = .ok (.iload_n 2, 1) := by decide +kernel
theorem dX1_addEdge_28 : decode cX1_addEdge 28 = .ok (.invokevirtual 42, 3) := by decide +kernel
theorem dX1_addEdge_31 : decode cX1_addEdge 31 = .ok (.ifCond .ne 5, 3) := by decide +kernel
theorem dX1_addEdge_34 : decode cX1_addEdge 34 = .ok (.iconst (-1), 1) := by decide +kernel
theorem dX1_addEdge_35 : decode cX1_addEdge 35 = .ok (.ireturn, 1) := by decide +kernel
theorem dX1_addEdge_36 : decode cX1_addEdge 36 = .ok (.aload_n 0, 1) := by decide +kernel
theorem dX1_addEdge_37 : decode cX1_addEdge 37 = .ok (.getfield 18, 3) := by decide +kernel
theorem dX1_addEdge_40 : decode cX1_addEdge 40 = .ok (.iload_n 1, 1) := by decide +kernel
theorem dX1_addEdge_41 : decode cX1_addEdge 41 = .ok (.iaload, 1) := by decide +kernel
theorem dX1_addEdge_42 : decode cX1_addEdge 42 = .ok (.istore 5, 2) := by decide +kernel
theorem dX1_addEdge_44 : decode cX1_addEdge 44 = .ok (.iload 5, 2) := by decide +kernel
theorem dX1_addEdge_46 : decode cX1_addEdge 46 = .ok (.ifCond .lt 10, 3) := by decide +kernel
theorem dX1_addEdge_49 : decode cX1_addEdge 49 = .ok (.iload 5, 2) := by decide +kernel
theorem dX1_addEdge_51 : decode cX1_addEdge 51 = .ok (.bipush 24, 2) := by decide +kernel
theorem dX1_addEdge_53 : decode cX1_addEdge 53 = .ok (.if_icmp .lt 5, 3) := by decide +kernel
theorem dX1_addEdge_56 : decode cX1_addEdge 56 = .ok (.iconst (-1), 1) := by decide +kernel
theorem dX1_addEdge_57 : decode cX1_addEdge 57 = .ok (.ireturn, 1) := by decide +kernel
theorem dX1_addEdge_58 : decode cX1_addEdge 58 = .ok (.aload_n 0, 1) := by decide +kernel
theorem dX1_addEdge_59 : decode cX1_addEdge 59 = .ok (.getfield 26, 3) := by decide +kernel
theorem dX1_addEdge_62 : decode cX1_addEdge 62 = .ok (.iload 4, 2) := by decide +kernel
theorem dX1_addEdge_64 : decode cX1_addEdge 64 = .ok (.iload_n 1, 1) := by decide +kernel
theorem dX1_addEdge_65 : decode cX1_addEdge 65 = .ok (.iastore, 1) := by decide +kernel
theorem dX1_addEdge_66 : decode cX1_addEdge 66 = .ok (.aload_n 0, 1) := by decide +kernel
theorem dX1_addEdge_67 : decode cX1_addEdge 67 = .ok (.getfield 29, 3) := by decide +kernel
theorem dX1_addEdge_70 : decode cX1_addEdge 70 = .ok (.iload 4, 2) := by decide +kernel
theorem dX1_addEdge_72 : decode cX1_addEdge 72 = .ok (.iload_n 2, 1) := by decide +kernel
theorem dX1_addEdge_73 : decode cX1_addEdge 73 = .ok (.iastore, 1) := by decide +kernel
theorem dX1_addEdge_74 : decode cX1_addEdge 74 = .ok (.aload_n 0, 1) := by decide +kernel
theorem dX1_addEdge_75 : decode cX1_addEdge 75 = .ok (.getfield 32, 3) := by decide +kernel
theorem dX1_addEdge_78 : decode cX1_addEdge 78 = .ok (.iload 4, 2) := by decide +kernel
theorem dX1_addEdge_80 : decode cX1_addEdge 80 = .ok (.iload_n 3, 1) := by decide +kernel
theorem dX1_addEdge_81 : decode cX1_addEdge 81 = .ok (.iastore, 1) := by decide +kernel
theorem dX1_addEdge_82 : decode cX1_addEdge 82 = .ok (.aload_n 0, 1) := by decide +kernel
theorem dX1_addEdge_83 : decode cX1_addEdge 83 = .ok (.getfield 23, 3) := by decide +kernel
theorem dX1_addEdge_86 : decode cX1_addEdge 86 = .ok (.iload_n 1, 1) := by decide +kernel
theorem dX1_addEdge_87 : decode cX1_addEdge 87 = .ok (.aaload, 1) := by decide +kernel
theorem dX1_addEdge_88 : decode cX1_addEdge 88 = .ok (.iload 5, 2) := by decide +kernel
theorem dX1_addEdge_90 : decode cX1_addEdge 90 = .ok (.iload 4, 2) := by decide +kernel
theorem dX1_addEdge_92 : decode cX1_addEdge 92 = .ok (.iastore, 1) := by decide +kernel
theorem dX1_addEdge_93 : decode cX1_addEdge 93 = .ok (.aload_n 0, 1) := by decide +kernel
theorem dX1_addEdge_94 : decode cX1_addEdge 94 = .ok (.getfield 18, 3) := by decide +kernel
theorem dX1_addEdge_97 : decode cX1_addEdge 97 = .ok (.iload_n 1, 1) := by decide +kernel
theorem dX1_addEdge_98 : decode cX1_addEdge 98 = .ok (.iload 5, 2) := by decide +kernel
theorem dX1_addEdge_100 : decode cX1_addEdge 100 = .ok (.iconst 1, 1) := by decide +kernel
theorem dX1_addEdge_101 : decode cX1_addEdge 101 = .ok (.iadd, 1) := by decide +kernel
theorem dX1_addEdge_102 : decode cX1_addEdge 102 = .ok (.iastore, 1) := by decide +kernel
theorem dX1_addEdge_103 : decode cX1_addEdge 103 = .ok (.aload_n 0, 1) := by decide +kernel
theorem dX1_addEdge_104 : decode cX1_addEdge 104 = .ok (.iload 4, 2) := by decide +kernel
theorem dX1_addEdge_106 : decode cX1_addEdge 106 = .ok (.iconst 1, 1) := by decide +kernel
theorem dX1_addEdge_107 : decode cX1_addEdge 107 = .ok (.iadd, 1) := by decide +kernel
theorem dX1_addEdge_108 : decode cX1_addEdge 108 = .ok (.putfield 39, 3) := by decide +kernel
theorem dX1_addEdge_111 : decode cX1_addEdge 111 = .ok (.iload 4, 2) := by decide +kernel
theorem dX1_addEdge_113 : decode cX1_addEdge 113 = .ok (.ireturn, 1) := by decide +kernel
end
section
theorem dX1_hasVertex_0 : decode cX1_hasVertex 0 = .ok (.iload_n 1, 1) := by decide +kernel
theorem dX1_hasVertex_1 : decode cX1_hasVertex 1 = .ok (.ifCond .lt 21, 3) := by decide +kernel
theorem dX1_hasVertex_4 : decode cX1_hasVertex 4 = .ok (.iload_n 1, 1) := by decide +kernel
theorem dX1_hasVertex_5 : decode cX1_hasVertex 5 = .ok (.aload_n 0, 1) := by decide +kernel
theorem dX1_hasVertex_6 : decode cX1_hasVertex 6 = .ok (.getfield 35, 3) := by decide +kernel
theorem dX1_hasVertex_9 : decode cX1_hasVertex 9 = .ok (.if_icmp .ge 13, 3) := by decide +kernel
theorem dX1_hasVertex_12 : decode cX1_hasVertex 12 = .ok (.iload_n 1, 1) := by decide +kernel
theorem dX1_hasVertex_13 : decode cX1_hasVertex 13 = .ok (.bipush 7, 2) := by decide +kernel
theorem dX1_hasVertex_15 : decode cX1_hasVertex 15 = .ok (.if_icmp .ge 7, 3) := by decide +kernel
theorem dX1_hasVertex_18 : decode cX1_hasVertex 18 = .ok (.iconst 1, 1) := by decide +kernel
theorem dX1_hasVertex_19 : decode cX1_hasVertex 19 = .ok (.goto 4, 3) := by decide +kernel
theorem dX1_hasVertex_22 : decode cX1_hasVertex 22 = .ok (.iconst 0, 1) := by decide +kernel
theorem dX1_hasVertex_23 : decode cX1_hasVertex 23 = .ok (.ireturn, 1) := by decide +kernel
theorem dX1_isFrom_0 : decode cX1_isFrom 0 = .ok (.iload_n 1, 1) := by decide +kernel
theorem dX1_isFrom_1 : decode cX1_isFrom 1 = .ok (.ifCond .lt 31, 3) := by decide +kernel
theorem dX1_isFrom_4 : decode cX1_isFrom 4 = .ok (.iload_n 1, 1) := by decide +kernel
theorem dX1_isFrom_5 : decode cX1_isFrom 5 = .ok (.aload_n 0, 1) := by decide +kernel
theorem dX1_isFrom_6 : decode cX1_isFrom 6 = .ok (.getfield 39, 3) := by decide +kernel
theorem dX1_isFrom_9 : decode cX1_isFrom 9 = .ok (.if_icmp .ge 23, 3) := by decide +kernel
theorem dX1_isFrom_12 : decode cX1_isFrom 12 = .ok (.iload_n 1, 1) := by decide +kernel
theorem dX1_isFrom_13 : decode cX1_isFrom 13 = .ok (.bipush 24, 2) := by decide +kernel
theorem dX1_isFrom_15 : decode cX1_isFrom 15 = .ok (.if_icmp .ge 17, 3) := by decide +kernel
theorem dX1_isFrom_18 : decode cX1_isFrom 18 = .ok (.aload_n 0, 1) := by decide +kernel
theorem dX1_isFrom_19 : decode cX1_isFrom 19 = .ok (.getfield 26, 3) := by decide +kernel
theorem dX1_isFrom_22 : decode cX1_isFrom 22 = .ok (.iload_n 1, 1) := by decide +kernel
theorem dX1_isFrom_23 : decode cX1_isFrom 23 = .ok (.iaload, 1) := by decide +kernel
theorem dX1_isFrom_24 : decode cX1_isFrom 24 = .ok (.iload_n 2, 1) := by decide +kernel
theorem dX1_isFrom_25 : decode cX1_isFrom 25 = .ok (.if_icmp .ne 7, 3) := by decide +kernel
theorem dX1_isFrom_28 : decode cX1_isFrom 28 = .ok (.iconst 1, 1) := by decide +kernel
theorem dX1_isFrom_29 : decode cX1_isFrom 29 = .ok (.goto 4, 3) := by decide +kernel
theorem dX1_isFrom_32 : decode cX1_isFrom 32 = .ok (.iconst 0, 1) := by decide +kernel
theorem dX1_isFrom_33 : decode cX1_isFrom 33 = .ok (.ireturn, 1) := by decide +kernel
set_option maxRecDepth 20000 in
theorem ggX1_ownerOf_X1_hasVertex : GoodIn wsX1_ownerOf wsX1_hasVertex := goodIn_r _ [6, 7, 8, 9, 10, 11, 12, 13, 14, 15, 16] (by decide +kernel) (by decide +kernel)
set_option maxRecDepth 20000 in
theorem gX1_ownerOf_X1_hasVertex : GoodIn wsX1_ownerOf (wsV RX1 42 RX1 yX1_hasVertex wsX1_hasVertex) := goodIn_app (goodIn_of _ (by decide +kernel)) ggX1_ownerOf_X1_hasVertex
theorem dX1_ownerOf_0 : decode cX1_ownerOf 0 = .ok (.aload_n 0, 1) := by decide +kernel
theorem dX1_ownerOf_1 : decode cX1_ownerOf 1 = .ok (.iload_n 1, 1) := by decide +kernel
theorem dX1_ownerOf_2 : decode cX1_ownerOf 2 = .ok (.invokevirtual 42, 3) := by decide +kernel
theorem dX1_ownerOf_5 : decode cX1_ownerOf 5 = .ok (.ifCond .eq 12, 3) := by decide +kernel
theorem dX1_ownerOf_8 : decode cX1_ownerOf 8 = .ok (.aload_n 0, 1) := by decide +kernel
theorem dX1_ownerOf_9 : decode cX1_ownerOf 9 = .ok (.getfield 9, 3) := by decide +kernel
theorem dX1_ownerOf_12 : decode cX1_ownerOf 12 = .ok (.iload_n 1, 1) := by decide +kernel
theorem dX1_ownerOf_13 : decode cX1_ownerOf 13 = .ok (.iaload, 1) := by decide +kernel
theorem dX1_ownerOf_14 : decode cX1_ownerOf 14 = .ok (.goto 4, 3) := by decide +kernel
theorem dX1_ownerOf_17 : decode cX1_ownerOf 17 = .ok (.iconst 0, 1) := by decide +kernel
theorem dX1_ownerOf_18 : decode cX1_ownerOf 18 = .ok (.ireturn, 1) := by decide +kernel
set_option maxRecDepth 20000 in
theorem ggX1_fixedOf_X1_hasVertex : GoodIn wsX1_fixedOf wsX1_hasVertex := goodIn_r _ [6, 7, 8, 9, 10, 11, 12, 13, 14, 15, 16] (by decide +kernel) (by decide +kernel)
set_option maxRecDepth 20000 in
theorem gX1_fixedOf_X1_hasVertex : GoodIn wsX1_fixedOf (wsV RX1 42 RX1 yX1_hasVertex wsX1_hasVertex) := goodIn_app (goodIn_of _ (by decide +kernel)) ggX1_fixedOf_X1_hasVertex
theorem dX1_fixedOf_0 : decode cX1_fixedOf 0 = .ok (.aload_n 0, 1) := by decide +kernel
theorem dX1_fixedOf_1 : decode cX1_fixedOf 1 = .ok (.iload_n 1, 1) := by decide +kernel
theorem dX1_fixedOf_2 : decode cX1_fixedOf 2 = .ok (.invokevirtual 42, 3) := by decide +kernel
theorem dX1_fixedOf_5 : decode cX1_fixedOf 5 = .ok (.ifCond .eq 12, 3) := by decide +kernel
theorem dX1_fixedOf_8 : decode cX1_fixedOf 8 = .ok (.aload_n 0, 1) := by decide +kernel
theorem dX1_fixedOf_9 : decode cX1_fixedOf 9 = .ok (.getfield 15, 3) := by decide +kernel
theorem dX1_fixedOf_12 : decode cX1_fixedOf 12 = .ok (.iload_n 1, 1) := by decide +kernel
theorem dX1_fixedOf_13 : decode cX1_fixedOf 13 = .ok (.iaload, 1) := by decide +kernel
theorem dX1_fixedOf_14 : decode cX1_fixedOf 14 = .ok (.goto 4, 3) := by decide +kernel
theorem dX1_fixedOf_17 : decode cX1_fixedOf 17 = .ok (.iconst (-1), 1) := by decide +kernel
theorem dX1_fixedOf_18 : decode cX1_fixedOf 18 = .ok (.ireturn, 1) := by decide +kernel
set_option maxRecDepth 20000 in
theorem ggX1_setFixed_X1_hasVertex : GoodIn wsX1_setFixed wsX1_hasVertex := goodIn_r _ [6, 7, 8, 9, 10, 11, 12, 13, 14, 15, 16] (by decide +kernel) (by decide +kernel)
set_option maxRecDepth 20000 in
theorem gX1_setFixed_X1_hasVertex : GoodIn wsX1_setFixed (wsV RX1 42 RX1 yX1_hasVertex wsX1_hasVertex) := goodIn_app (goodIn_of _ (by decide +kernel)) ggX1_setFixed_X1_hasVertex
theorem dX1_setFixed_0 : decode cX1_setFixed 0 = .ok (.aload_n 0, 1) := by decide +kernel
theorem dX1_setFixed_1 : decode cX1_setFixed 1 = .ok (.iload_n 1, 1) := by decide +kernel
theorem dX1_setFixed_2 : decode cX1_setFixed 2 = .ok (.invokevirtual 42, 3) := by decide +kernel
theorem dX1_setFixed_5 : decode cX1_setFixed 5 = .ok (.ifCond .eq 10, 3) := by decide +kernel
theorem dX1_setFixed_8 : decode cX1_setFixed 8 = .ok (.aload_n 0, 1) := by decide +kernel
theorem dX1_setFixed_9 : decode cX1_setFixed 9 = .ok (.getfield 15, 3) := by decide +kernel
theorem dX1_setFixed_12 : decode cX1_setFixed 12 = .ok (.iload_n 1, 1) := by decide +kernel
theorem dX1_setFixed_13 : decode cX1_setFixed 13 = .ok (.iload_n 2, 1) := by decide +kernel
theorem dX1_setFixed_14 : decode cX1_setFixed 14 = .ok (.iastore, 1) := by decide +kernel
theorem dX1_setFixed_15 : decode cX1_setFixed 15 = .ok (.return_, 1) := by decide +kernel
theorem dX1_targetOf_0 : decode cX1_targetOf 0 = .ok (.iload_n 1, 1) := by decide +kernel
theorem dX1_targetOf_1 : decode cX1_targetOf 1 = .ok (.ifCond .lt 18, 3) := by decide +kernel
theorem dX1_targetOf_4 : decode cX1_targetOf 4 = .ok (.iload_n 1, 1) := by decide +kernel
theorem dX1_targetOf_5 : decode cX1_targetOf 5 = .ok (.bipush 24, 2) := by decide +kernel
theorem dX1_targetOf_7 : decode cX1_targetOf 7 = .ok (.if_icmp .ge 12, 3) := by decide +kernel
theorem dX1_targetOf_10 : decode cX1_targetOf 10 = .ok (.aload_n 0, 1) := by decide +kernel
theorem dX1_targetOf_11 : decode cX1_targetOf 11 = .ok (.getfield 29, 3) := by decide +kernel
theorem dX1_targetOf_14 : decode cX1_targetOf 14 = .ok (.iload_n 1, 1) := by decide +kernel
theorem dX1_targetOf_15 : decode cX1_targetOf 15 = .ok (.iaload, 1) := by decide +kernel
theorem dX1_targetOf_16 : decode cX1_targetOf 16 = .ok (.goto 4, 3) := by decide +kernel
theorem dX1_targetOf_19 : decode cX1_targetOf 19 = .ok (.iconst (-1), 1) := by decide +kernel
theorem dX1_targetOf_20 : decode cX1_targetOf 20 = .ok (.ireturn, 1) := by decide +kernel
theorem dX1_weightOf_0 : decode cX1_weightOf 0 = .ok (.iload_n 1, 1) := by decide +kernel
theorem dX1_weightOf_1 : decode cX1_weightOf 1 = .ok (.ifCond .lt 18, 3) := by decide +kernel
theorem dX1_weightOf_4 : decode cX1_weightOf 4 = .ok (.iload_n 1, 1) := by decide +kernel
theorem dX1_weightOf_5 : decode cX1_weightOf 5 = .ok (.bipush 24, 2) := by decide +kernel
theorem dX1_weightOf_7 : decode cX1_weightOf 7 = .ok (.if_icmp .ge 12, 3) := by decide +kernel
theorem dX1_weightOf_10 : decode cX1_weightOf 10 = .ok (.aload_n 0, 1) := by decide +kernel
theorem dX1_weightOf_11 : decode cX1_weightOf 11 = .ok (.getfield 32, 3) := by decide +kernel
theorem dX1_weightOf_14 : decode cX1_weightOf 14 = .ok (.iload_n 1, 1) := by decide +kernel
theorem dX1_weightOf_15 : decode cX1_weightOf 15 = .ok (.iaload, 1) := by decide +kernel
theorem dX1_weightOf_16 : decode cX1_weightOf 16 = .ok (.goto 4, 3) := by decide +kernel
theorem dX1_weightOf_19 : decode cX1_weightOf 19 = .ok (.iconst 0, 1) := by decide +kernel
theorem dX1_weightOf_20 : decode cX1_weightOf 20 = .ok (.ireturn, 1) := by decide +kernel
set_option maxRecDepth 20000 in
theorem ggX1_waysFrom_X1_hasVertex : GoodIn wsX1_waysFrom wsX1_hasVertex := goodIn_r _ [7, 8, 9, 10, 11, 12, 13, 14, 15, 16, 17] (by decide +kernel) (by decide +kernel)
set_option maxRecDepth 20000 in
theorem gX1_waysFrom_X1_hasVertex : GoodIn wsX1_waysFrom (wsV RX1 42 RX1 yX1_hasVertex wsX1_hasVertex) := goodIn_app (goodIn_of _ (by decide +kernel)) ggX1_waysFrom_X1_hasVertex
theorem dX1_waysFrom_0 : decode cX1_waysFrom 0 = .ok (.aload_n 0, 1) := by decide +kernel
theorem dX1_waysFrom_1 : decode cX1_waysFrom 1 = .ok (.iload_n 1, 1) := by decide +kernel
theorem dX1_waysFrom_2 : decode cX1_waysFrom 2 = .ok (.invokevirtual 42, 3) := by decide +kernel
theorem dX1_waysFrom_5 : decode cX1_waysFrom 5 = .ok (.ifCond .ne 5, 3) := by decide +kernel
theorem dX1_waysFrom_8 : decode cX1_waysFrom 8 = .ok (.iconst 0, 1) := by decide +kernel
theorem dX1_waysFrom_9 : decode cX1_waysFrom 9 = .ok (.ireturn, 1) := by decide +kernel
theorem dX1_waysFrom_10 : decode cX1_waysFrom 10 = .ok (.aload_n 0, 1) := by decide +kernel
theorem dX1_waysFrom_11 : decode cX1_waysFrom 11 = .ok (.getfield 15, 3) := by decide +kernel
theorem dX1_waysFrom_14 : decode cX1_waysFrom 14 = .ok (.iload_n 1, 1) := by decide +kernel
theorem dX1_waysFrom_15 : decode cX1_waysFrom 15 = .ok (.iaload, 1) := by decide +kernel
theorem dX1_waysFrom_16 : decode cX1_waysFrom 16 = .ok (.iconst (-1), 1) := by decide +kernel
theorem dX1_waysFrom_17 : decode cX1_waysFrom 17 = .ok (.if_icmp .eq 7, 3) := by decide +kernel
theorem dX1_waysFrom_20 : decode cX1_waysFrom 20 = .ok (.iconst 1, 1) := by decide +kernel
theorem dX1_waysFrom_21 : decode cX1_waysFrom 21 = .ok (.goto 9, 3) := by decide +kernel
theorem dX1_waysFrom_24 : decode cX1_waysFrom 24 = .ok (.aload_n 0, 1) := by decide +kernel
theorem dX1_waysFrom_25 : decode cX1_waysFrom 25 = .ok (.getfield 18, 3) := by decide +kernel
theorem dX1_waysFrom_28 : decode cX1_waysFrom 28 = .ok (.iload_n 1, 1) := by decide +kernel
theorem dX1_waysFrom_29 : decode cX1_waysFrom 29 = .ok (.iaload, 1) := by decide +kernel
theorem dX1_waysFrom_30 : decode cX1_waysFrom 30 = .ok (.ireturn, 1) := by decide +kernel
set_option maxRecDepth 20000 in
theorem ggX1_wayFrom_X1_hasVertex : GoodIn wsX1_wayFrom wsX1_hasVertex := goodIn_r _ [8, 9, 10, 11, 12, 13, 14, 15, 16, 17, 18] (by decide +kernel) (by decide +kernel)
set_option maxRecDepth 20000 in
theorem gX1_wayFrom_X1_hasVertex : GoodIn wsX1_wayFrom (wsV RX1 42 RX1 yX1_hasVertex wsX1_hasVertex) := goodIn_app (goodIn_of _ (by decide +kernel)) ggX1_wayFrom_X1_hasVertex
theorem dX1_wayFrom_0 : decode cX1_wayFrom 0 = .ok (.aload_n 0, 1) := by decide +kernel
theorem dX1_wayFrom_1 : decode cX1_wayFrom 1 = .ok (.iload_n 1, 1) := by decide +kernel
theorem dX1_wayFrom_2 : decode cX1_wayFrom 2 = .ok (.invokevirtual 42, 3) := by decide +kernel
theorem dX1_wayFrom_5 : decode cX1_wayFrom 5 = .ok (.ifCond .eq 23, 3) := by decide +kernel
theorem dX1_wayFrom_8 : decode cX1_wayFrom 8 = .ok (.iload_n 2, 1) := by decide +kernel
theorem dX1_wayFrom_9 : decode cX1_wayFrom 9 = .ok (.ifCond .lt 19, 3) := by decide +kernel
theorem dX1_wayFrom_12 : decode cX1_wayFrom 12 = .ok (.iload_n 2, 1) := by decide +kernel
theorem dX1_wayFrom_13 : decode cX1_wayFrom 13 = .ok (.aload_n 0, 1) := by decide +kernel
theorem dX1_wayFrom_14 : decode cX1_wayFrom 14 = .ok (.getfield 18, 3) := by decide +kernel
theorem dX1_wayFrom_17 : decode cX1_wayFrom 17 = .ok (.iload_n 1, 1) := by decide +kernel
theorem dX1_wayFrom_18 : decode cX1_wayFrom 18 = .ok (.iaload, 1) := by decide +kernel
theorem dX1_wayFrom_19 : decode cX1_wayFrom 19 = .ok (.if_icmp .ge 9, 3) := by decide +kernel
theorem dX1_wayFrom_22 : decode cX1_wayFrom 22 = .ok (.iload_n 2, 1) := by decide +kernel
theorem dX1_wayFrom_23 : decode cX1_wayFrom 23 = .ok (.bipush 24, 2) := by decide +kernel
theorem dX1_wayFrom_25 : decode cX1_wayFrom 25 = .ok (.if_icmp .lt 5, 3) := by decide +kernel
theorem dX1_wayFrom_28 : decode cX1_wayFrom 28 = .ok (.iconst (-1), 1) := by decide +kernel
theorem dX1_wayFrom_29 : decode cX1_wayFrom 29 = .ok (.ireturn, 1) := by decide +kernel
theorem dX1_wayFrom_30 : decode cX1_wayFrom 30 = .ok (.aload_n 0, 1) := by decide +kernel
theorem dX1_wayFrom_31 : decode cX1_wayFrom 31 = .ok (.getfield 15, 3) := by decide +kernel
theorem dX1_wayFrom_34 : decode cX1_wayFrom 34 = .ok (.iload_n 1, 1) := by decide +kernel
theorem dX1_wayFrom_35 : decode cX1_wayFrom 35 = .ok (.iaload, 1) := by decide +kernel
theorem dX1_wayFrom_36 : decode cX1_wayFrom 36 = .ok (.iconst (-1), 1) := by decide +kernel
theorem dX1_wayFrom_37 : decode cX1_wayFrom 37 = .ok (.if_icmp .eq 12, 3) := by decide +kernel
theorem dX1_wayFrom_40 : decode cX1_wayFrom 40 = .ok (.aload_n 0, 1) := by decide +kernel
theorem dX1_wayFrom_41 : decode cX1_wayFrom 41 = .ok (.getfield 15, 3) := by decide +kernel
theorem dX1_wayFrom_44 : decode cX1_wayFrom 44 = .ok (.iload_n 1, 1) := by decide +kernel
theorem dX1_wayFrom_45 : decode cX1_wayFrom 45 = .ok (.iaload, 1) := by decide +kernel
theorem dX1_wayFrom_46 : decode cX1_wayFrom 46 = .ok (.goto 11, 3) := by decide +kernel
theorem dX1_wayFrom_49 : decode cX1_wayFrom 49 = .ok (.aload_n 0, 1) := by decide +kernel
theorem dX1_wayFrom_50 : decode cX1_wayFrom 50 = .ok (.getfield 23, 3) := by decide +kernel
theorem dX1_wayFrom_53 : decode cX1_wayFrom 53 = .ok (.iload_n 1, 1) := by decide +kernel
theorem dX1_wayFrom_54 : decode cX1_wayFrom 54 = .ok (.aaload, 1) := by decide +kernel
theorem dX1_wayFrom_55 : decode cX1_wayFrom 55 = .ok (.iload_n 2, 1) := by decide +kernel
theorem dX1_wayFrom_56 : decode cX1_wayFrom 56 = .ok (.iaload, 1) := by decide +kernel
theorem dX1_wayFrom_57 : decode cX1_wayFrom 57 = .ok (.ireturn, 1) := by decide +kernel
set_option maxRecDepth 20000 in
theorem ggX1_isComplete_X1_waysFrom : GoodIn wsX1_isComplete wsX1_waysFrom := goodIn_r _ [6, 7, 8, 9, 10, 11, 5, 12, 1, 13, 14, 15, 16, 17, 18, 19, 20, 21] (by decide +kernel) (by decide +kernel)
set_option maxRecDepth 20000 in
theorem gX1_isComplete_X1_waysFrom : GoodIn wsX1_isComplete (wsV RX1 46 RX1 yX1_waysFrom wsX1_waysFrom) := goodIn_app (goodIn_of _ (by decide +kernel)) ggX1_isComplete_X1_waysFrom
theorem dX1_isComplete_0 : decode cX1_isComplete 0 = .ok (.iconst 0, 1) := by decide +kernel
theorem dX1_isComplete_1 : decode cX1_isComplete 1 = .ok (.istore_n 1, 1) := by decide +kernel
theorem dX1_isComplete_2 : decode cX1_isComplete 2 = .ok (.iload_n 1, 1) := by decide +kernel
theorem dX1_isComplete_3 : decode cX1_isComplete 3 = .ok (.aload_n 0, 1) := by decide +kernel
theorem dX1_isComplete_4 : decode cX1_isComplete 4 = .ok (.getfield 35, 3) := by decide +kernel
theorem dX1_isComplete_7 : decode cX1_isComplete 7 = .ok (.if_icmp .ge 19, 3) := by decide +kernel
theorem dX1_isComplete_10 : decode cX1_isComplete 10 = .ok (.aload_n 0, 1) := by decide +kernel
theorem dX1_isComplete_11 : decode cX1_isComplete 11 = .ok (.iload_n 1, 1) := by decide +kernel
theorem dX1_isComplete_12 : decode cX1_isComplete 12 = .ok (.invokevirtual 46, 3) := by decide +kernel
theorem dX1_isComplete_15 : decode cX1_isComplete 15 = .ok (.ifCond .ne 5, 3) := by decide +kernel
theorem dX1_isComplete_18 : decode cX1_isComplete 18 = .ok (.iconst 0, 1) := by decide +kernel
theorem dX1_isComplete_19 : decode cX1_isComplete 19 = .ok (.ireturn, 1) := by decide +kernel
theorem dX1_isComplete_20 : decode cX1_isComplete 20 = .ok (.iinc 1 1, 3) := by decide +kernel
theorem dX1_isComplete_23 : decode cX1_isComplete 23 = .ok (.goto (-21), 3) := by decide +kernel
theorem dX1_isComplete_26 : decode cX1_isComplete 26 = .ok (.aload_n 0, 1) := by decide +kernel
theorem dX1_isComplete_27 : decode cX1_isComplete 27 = .ok (.getfield 35, 3) := by decide +kernel
theorem dX1_isComplete_30 : decode cX1_isComplete 30 = .ok (.ifCond .le 7, 3) := by decide +kernel
theorem dX1_isComplete_33 : decode cX1_isComplete 33 = .ok (.iconst 1, 1) := by decide +kernel
theorem dX1_isComplete_34 : decode cX1_isComplete 34 = .ok (.goto 4, 3) := by decide +kernel
theorem dX1_isComplete_37 : decode cX1_isComplete 37 = .ok (.iconst 0, 1) := by decide +kernel
theorem dX1_isComplete_38 : decode cX1_isComplete 38 = .ok (.ireturn, 1) := by decide +kernel
theorem dX2_init_0 : decode cX2_init 0 = .ok (.aload_n 0, 1) := by decide +kernel
theorem dX2_init_1 : decode cX2_init 1 = .ok (.invokespecial 3, 3) := by decide +kernel
theorem dX2_init_4 : decode cX2_init 4 = .ok (.aload_n 0, 1) := by decide +kernel
theorem dX2_init_5 : decode cX2_init 5 = .ok (.bipush 7, 2) := by decide +kernel
theorem dX2_init_7 : decode cX2_init 7 = .ok (.newarray .int, 2) := by decide +kernel
theorem dX2_init_9 : decode cX2_init 9 = .ok (.putfield 9, 3) := by decide +kernel
theorem dX2_init_12 : decode cX2_init 12 = .ok (.aload_n 0, 1) := by decide +kernel
theorem dX2_init_13 : decode cX2_init 13 = .ok (.bipush 7, 2) := by decide +kernel
theorem dX2_init_15 : decode cX2_init 15 = .ok (.newarray .int, 2) := by decide +kernel
theorem dX2_init_17 : decode cX2_init 17 = .ok (.putfield 15, 3) := by decide +kernel
theorem dX2_init_20 : decode cX2_init 20 = .ok (.return_, 1) := by decide +kernel
set_option maxRecDepth 20000 in
theorem ggX2_clear_J7_fill_53178 : GoodIn wsX2_clear wsJ7_fill_53178 := goodIn_r _ [5] (by decide +kernel) (by decide +kernel)
set_option maxRecDepth 20000 in
theorem gX2_clear_J7_fill_53178 : GoodIn wsX2_clear (va_wsS RX2 18 yJ7_fill_53178 wsJ7_fill_53178) := goodIn_app (goodIn_of _ (by decide +kernel)) ggX2_clear_J7_fill_53178
theorem dX2_clear_0 : decode cX2_clear 0 = .ok (.aload_n 0, 1) := by decide +kernel
theorem dX2_clear_1 : decode cX2_clear 1 = .ok (.getfield 9, 3) := by decide +kernel
theorem dX2_clear_4 : decode cX2_clear 4 = .ok (.iconst (-1), 1) := by decide +kernel
theorem dX2_clear_5 : decode cX2_clear 5 = .ok (.invokestatic 18, 3) := by decide +kernel
theorem dX2_clear_8 : decode cX2_clear 8 = .ok (.return_, 1) := by decide +kernel
theorem dX2_isPlace_0 : decode cX2_isPlace 0 = .ok (.iload_n 1, 1) := by decide +kernel
theorem dX2_isPlace_1 : decode cX2_isPlace 1 = .ok (.ifCond .lt 13, 3) := by decide +kernel
theorem dX2_isPlace_4 : decode cX2_isPlace 4 = .ok (.iload_n 1, 1) := by decide +kernel
theorem dX2_isPlace_5 : decode cX2_isPlace 5 = .ok (.bipush 7, 2) := by decide +kernel
theorem dX2_isPlace_7 : decode cX2_isPlace 7 = .ok (.if_icmp .ge 7, 3) := by decide +kernel
theorem dX2_isPlace_10 : decode cX2_isPlace 10 = .ok (.iconst 1, 1) := by decide +kernel
theorem dX2_isPlace_11 : decode cX2_isPlace 11 = .ok (.goto 4, 3) := by decide +kernel
theorem dX2_isPlace_14 : decode cX2_isPlace 14 = .ok (.iconst 0, 1) := by decide +kernel
theorem dX2_isPlace_15 : decode cX2_isPlace 15 = .ok (.ireturn, 1) := by decide +kernel
set_option maxRecDepth 20000 in
theorem ggX2_has_X2_isPlace : GoodIn wsX2_has wsX2_isPlace := goodIn_r _ [6] (by decide +kernel) (by decide +kernel)
set_option maxRecDepth 20000 in
theorem gX2_has_X2_isPlace : GoodIn wsX2_has (wsV RX2 24 RX2 yX2_isPlace wsX2_isPlace) := goodIn_app (goodIn_of _ (by decide +kernel)) ggX2_has_X2_isPlace
theorem dX2_has_0 : decode cX2_has 0 = .ok (.aload_n 0, 1) := by decide +kernel
theorem dX2_has_1 : decode cX2_has 1 = .ok (.iload_n 1, 1) := by decide +kernel
theorem dX2_has_2 : decode cX2_has 2 = .ok (.invokevirtual 24, 3) := by decide +kernel
theorem dX2_has_5 : decode cX2_has 5 = .ok (.ifCond .eq 17, 3) := by decide +kernel
theorem dX2_has_8 : decode cX2_has 8 = .ok (.aload_n 0, 1) := by decide +kernel
theorem dX2_has_9 : decode cX2_has 9 = .ok (.getfield 9, 3) := by decide +kernel
theorem dX2_has_12 : decode cX2_has 12 = .ok (.iload_n 1, 1) := by decide +kernel
theorem dX2_has_13 : decode cX2_has 13 = .ok (.iaload, 1) := by decide +kernel
theorem dX2_has_14 : decode cX2_has 14 = .ok (.iconst (-1), 1) := by decide +kernel
theorem dX2_has_15 : decode cX2_has 15 = .ok (.if_icmp .eq 7, 3) := by decide +kernel
theorem dX2_has_18 : decode cX2_has 18 = .ok (.iconst 1, 1) := by decide +kernel
theorem dX2_has_19 : decode cX2_has 19 = .ok (.goto 4, 3) := by decide +kernel
theorem dX2_has_22 : decode cX2_has 22 = .ok (.iconst 0, 1) := by decide +kernel
theorem dX2_has_23 : decode cX2_has 23 = .ok (.ireturn, 1) := by decide +kernel
set_option maxRecDepth 20000 in
theorem ggX2_enter_X2_isPlace : GoodIn wsX2_enter wsX2_isPlace := goodIn_r _ [7] (by decide +kernel) (by decide +kernel)
set_option maxRecDepth 20000 in
theorem gX2_enter_X2_isPlace : GoodIn wsX2_enter (wsV RX2 24 RX2 yX2_isPlace wsX2_isPlace) := goodIn_app (goodIn_of _ (by decide +kernel)) ggX2_enter_X2_isPlace
theorem dX2_enter_0 : decode cX2_enter 0 = .ok (.aload_n 0, 1) := by decide +kernel
theorem dX2_enter_1 : decode cX2_enter 1 = .ok (.iload_n 1, 1) := by decide +kernel
theorem dX2_enter_2 : decode cX2_enter 2 = .ok (.invokevirtual 24, 3) := by decide +kernel
theorem dX2_enter_5 : decode cX2_enter 5 = .ok (.ifCond .eq 17, 3) := by decide +kernel
theorem dX2_enter_8 : decode cX2_enter 8 = .ok (.aload_n 0, 1) := by decide +kernel
theorem dX2_enter_9 : decode cX2_enter 9 = .ok (.getfield 9, 3) := by decide +kernel
theorem dX2_enter_12 : decode cX2_enter 12 = .ok (.iload_n 1, 1) := by decide +kernel
theorem dX2_enter_13 : decode cX2_enter 13 = .ok (.iload_n 2, 1) := by decide +kernel
theorem dX2_enter_14 : decode cX2_enter 14 = .ok (.iastore, 1) := by decide +kernel
theorem dX2_enter_15 : decode cX2_enter 15 = .ok (.aload_n 0, 1) := by decide +kernel
theorem dX2_enter_16 : decode cX2_enter 16 = .ok (.getfield 15, 3) := by decide +kernel
theorem dX2_enter_19 : decode cX2_enter 19 = .ok (.iload_n 1, 1) := by decide +kernel
theorem dX2_enter_20 : decode cX2_enter 20 = .ok (.iload_n 3, 1) := by decide +kernel
theorem dX2_enter_21 : decode cX2_enter 21 = .ok (.iastore, 1) := by decide +kernel
theorem dX2_enter_22 : decode cX2_enter 22 = .ok (.return_, 1) := by decide +kernel
set_option maxRecDepth 20000 in
theorem ggX2_leave_X2_isPlace : GoodIn wsX2_leave wsX2_isPlace := goodIn_r _ [6] (by decide +kernel) (by decide +kernel)
set_option maxRecDepth 20000 in
theorem gX2_leave_X2_isPlace : GoodIn wsX2_leave (wsV RX2 24 RX2 yX2_isPlace wsX2_isPlace) := goodIn_app (goodIn_of _ (by decide +kernel)) ggX2_leave_X2_isPlace
theorem dX2_leave_0 : decode cX2_leave 0 = .ok (.aload_n 0, 1) := by decide +kernel
theorem dX2_leave_1 : decode cX2_leave 1 = .ok (.iload_n 1, 1) := by decide +kernel
theorem dX2_leave_2 : decode cX2_leave 2 = .ok (.invokevirtual 24, 3) := by decide +kernel
theorem dX2_leave_5 : decode cX2_leave 5 = .ok (.ifCond .eq 10, 3) := by decide +kernel
theorem dX2_leave_8 : decode cX2_leave 8 = .ok (.aload_n 0, 1) := by decide +kernel
theorem dX2_leave_9 : decode cX2_leave 9 = .ok (.getfield 9, 3) := by decide +kernel
theorem dX2_leave_12 : decode cX2_leave 12 = .ok (.iload_n 1, 1) := by decide +kernel
theorem dX2_leave_13 : decode cX2_leave 13 = .ok (.iconst (-1), 1) := by decide +kernel
theorem dX2_leave_14 : decode cX2_leave 14 = .ok (.iastore, 1) := by decide +kernel
theorem dX2_leave_15 : decode cX2_leave 15 = .ok (.return_, 1) := by decide +kernel
set_option maxRecDepth 20000 in
theorem ggX2_stepsTo_X2_isPlace : GoodIn wsX2_stepsTo wsX2_isPlace := goodIn_r _ [6] (by decide +kernel) (by decide +kernel)
set_option maxRecDepth 20000 in
theorem gX2_stepsTo_X2_isPlace : GoodIn wsX2_stepsTo (wsV RX2 24 RX2 yX2_isPlace wsX2_isPlace) := goodIn_app (goodIn_of _ (by decide +kernel)) ggX2_stepsTo_X2_isPlace
theorem dX2_stepsTo_0 : decode cX2_stepsTo 0 = .ok (.aload_n 0, 1) := by decide +kernel
theorem dX2_stepsTo_1 : decode cX2_stepsTo 1 = .ok (.iload_n 1, 1) := by decide +kernel
theorem dX2_stepsTo_2 : decode cX2_stepsTo 2 = .ok (.invokevirtual 24, 3) := by decide +kernel
theorem dX2_stepsTo_5 : decode cX2_stepsTo 5 = .ok (.ifCond .eq 12, 3) := by decide +kernel
theorem dX2_stepsTo_8 : decode cX2_stepsTo 8 = .ok (.aload_n 0, 1) := by decide +kernel
theorem dX2_stepsTo_9 : decode cX2_stepsTo 9 = .ok (.getfield 9, 3) := by decide +kernel
theorem dX2_stepsTo_12 : decode cX2_stepsTo 12 = .ok (.iload_n 1, 1) := by decide +kernel
theorem dX2_stepsTo_13 : decode cX2_stepsTo 13 = .ok (.iaload, 1) := by decide +kernel
theorem dX2_stepsTo_14 : decode cX2_stepsTo 14 = .ok (.goto 4, 3) := by decide +kernel
theorem dX2_stepsTo_17 : decode cX2_stepsTo 17 = .ok (.iconst (-1), 1) := by decide +kernel
theorem dX2_stepsTo_18 : decode cX2_stepsTo 18 = .ok (.ireturn, 1) := by decide +kernel
set_option maxRecDepth 20000 in
theorem ggX2_sumTo_X2_isPlace : GoodIn wsX2_sumTo wsX2_isPlace := goodIn_r _ [6] (by decide +kernel) (by decide +kernel)
set_option maxRecDepth 20000 in
theorem gX2_sumTo_X2_isPlace : GoodIn wsX2_sumTo (wsV RX2 24 RX2 yX2_isPlace wsX2_isPlace) := goodIn_app (goodIn_of _ (by decide +kernel)) ggX2_sumTo_X2_isPlace
theorem dX2_sumTo_0 : decode cX2_sumTo 0 = .ok (.aload_n 0, 1) := by decide +kernel
theorem dX2_sumTo_1 : decode cX2_sumTo 1 = .ok (.iload_n 1, 1) := by decide +kernel
theorem dX2_sumTo_2 : decode cX2_sumTo 2 = .ok (.invokevirtual 24, 3) := by decide +kernel
theorem dX2_sumTo_5 : decode cX2_sumTo 5 = .ok (.ifCond .eq 12, 3) := by decide +kernel
theorem dX2_sumTo_8 : decode cX2_sumTo 8 = .ok (.aload_n 0, 1) := by decide +kernel
theorem dX2_sumTo_9 : decode cX2_sumTo 9 = .ok (.getfield 15, 3) := by decide +kernel
theorem dX2_sumTo_12 : decode cX2_sumTo 12 = .ok (.iload_n 1, 1) := by decide +kernel
theorem dX2_sumTo_13 : decode cX2_sumTo 13 = .ok (.iaload, 1) := by decide +kernel
theorem dX2_sumTo_14 : decode cX2_sumTo 14 = .ok (.goto 4, 3) := by decide +kernel
theorem dX2_sumTo_17 : decode cX2_sumTo 17 = .ok (.iconst 0, 1) := by decide +kernel
theorem dX2_sumTo_18 : decode cX2_sumTo 18 = .ok (.ireturn, 1) := by decide +kernel
set_option maxRecDepth 20000 in
theorem ggX3_init_X2_init : GoodIn wsX3_init wsX2_init := goodIn_r _ [14, 15, 2, 3, 10, 16, 17, 18, 19] (by decide +kernel) (by decide +kernel)
set_option maxRecDepth 20000 in
theorem gX3_init_X2_init_n11 : GoodIn wsX3_init (wsX2_init) := ggX3_init_X2_init
theorem dX3_init_0 : decode cX3_init 0 = .ok (.aload_n 0, 1) := by decide +kernel
theorem dX3_init_1 : decode cX3_init 1 = .ok (.invokespecial 3, 3) := by decide +kernel
theorem dX3_init_4 : decode cX3_init 4 = .ok (.aload_n 0, 1) := by decide +kernel
theorem dX3_init_5 : decode cX3_init 5 = .ok (.new 9, 3) := by decide +kernel
theorem dX3_init_8 : decode cX3_init 8 = .ok (.dup, 1) := by decide +kernel
theorem dX3_init_9 : decode cX3_init 9 = .ok (.invokespecial 11, 3) := by decide +kernel
theorem dX3_init_12 : decode cX3_init 12 = .ok (.putfield 12, 3) := by decide +kernel
theorem dX3_init_15 : decode cX3_init 15 = .ok (.aload_n 0, 1) := by decide +kernel
theorem dX3_init_16 : decode cX3_init 16 = .ok (.bipush 7, 2) := by decide +kernel
theorem dX3_init_18 : decode cX3_init 18 = .ok (.newarray .boolean, 2) := by decide +kernel
theorem dX3_init_20 : decode cX3_init 20 = .ok (.putfield 18, 3) := by decide +kernel
theorem dX3_init_23 : decode cX3_init 23 = .ok (.aload_n 0, 1) := by decide +kernel
theorem dX3_init_24 : decode cX3_init 24 = .ok (.bipush 7, 2) := by decide +kernel
theorem dX3_init_26 : decode cX3_init 26 = .ok (.newarray .int, 2) := by decide +kernel
theorem dX3_init_28 : decode cX3_init 28 = .ok (.putfield 22, 3) := by decide +kernel
theorem dX3_init_31 : decode cX3_init 31 = .ok (.aload_n 0, 1) := by decide +kernel
theorem dX3_init_32 : decode cX3_init 32 = .ok (.aload_n 1, 1) := by decide +kernel
theorem dX3_init_33 : decode cX3_init 33 = .ok (.putfield 26, 3) := by decide +kernel
theorem dX3_init_36 : decode cX3_init 36 = .ok (.return_, 1) := by decide +kernel
theorem dX3_forget_0 : decode cX3_forget 0 = .ok (.iconst 0, 1) := by decide +kernel
theorem dX3_forget_1 : decode cX3_forget 1 = .ok (.istore_n 1, 1) := by decide +kernel
theorem dX3_forget_2 : decode cX3_forget 2 = .ok (.iload_n 1, 1) := by decide +kernel
theorem dX3_forget_3 : decode cX3_forget 3 = .ok (.bipush 7, 2) := by decide +kernel
theorem dX3_forget_5 : decode cX3_forget 5 = .ok (.if_icmp .ge 16, 3) := by decide +kernel
theorem dX3_forget_8 : decode cX3_forget 8 = .ok (.aload_n 0, 1) := by decide +kernel
theorem dX3_forget_9 : decode cX3_forget 9 = .ok (.getfield 18, 3) := by decide +kernel
theorem dX3_forget_12 : decode cX3_forget 12 = .ok (.iload_n 1, 1) := by decide +kernel
theorem dX3_forget_13 : decode cX3_forget 13 = .ok (.iconst 0, 1) := by decide +kernel
theorem dX3_forget_14 : decode cX3_forget 14 = .ok (.bastore, 1) := by decide +kernel
theorem dX3_forget_15 : decode cX3_forget 15 = .ok (.iinc 1 1, 3) := by decide +kernel
theorem dX3_forget_18 : decode cX3_forget 18 = .ok (.goto (-16), 3) := by decide +kernel
theorem dX3_forget_21 : decode cX3_forget 21 = .ok (.return_, 1) := by decide +kernel
set_option maxRecDepth 20000 in
theorem ggX3_findAll_X3_find : GoodIn wsX3_findAll wsX3_find := goodIn_r _ [5, 6, 7, 8, 9, 10, 11, 12, 13, 14, 15, 16, 17, 18, 19, 20, 21, 22, 23, 24, 25, 26, 27, 28, 4, 29, 30, 31, 32, 33, 34, 35, 36, 37, 38, 39, 40, 41, 42, 43, 44, 45, 46, 47, 48, 49, 50, 51, 52, 53, 54, 55, 56, 57, 58, 59, 60, 61, 62, 63, 64, 65, 66, 67, 68, 69, 70, 71, 72, 73, 74, 75, 76, 77, 78, 79, 80, 81, 82, 83, 84, 85, 86, 87, 88, 89, 90, 91, 92, 93, 94, 95, 96, 97, 98, 99, 100, 101, 102, 103, 104] (by decide +kernel) (by decide +kernel)
set_option maxRecDepth 20000 in
theorem gX3_findAll_X3_find : GoodIn wsX3_findAll (wsV RX3 30 RX3 yX3_find wsX3_find) := goodIn_app (goodIn_of _ (by decide +kernel)) ggX3_findAll_X3_find
theorem dX3_findAll_0 : decode cX3_findAll 0 = .ok (.iconst 0, 1) := by decide +kernel
theorem dX3_findAll_1 : decode cX3_findAll 1 = .ok (.istore_n 1, 1) := by decide +kernel
theorem dX3_findAll_2 : decode cX3_findAll 2 = .ok (.iload_n 1, 1) := by decide +kernel
theorem dX3_findAll_3 : decode cX3_findAll 3 = .ok (.bipush 7, 2) := by decide +kernel
theorem dX3_findAll_5 : decode cX3_findAll 5 = .ok (.if_icmp .ge 14, 3) := by decide +kernel
theorem dX3_findAll_8 : decode cX3_findAll 8 = .ok (.aload_n 0, 1) := by decide +kernel
theorem dX3_findAll_9 : decode cX3_findAll 9 = .ok (.iload_n 1, 1) := by decide +kernel
theorem dX3_findAll_10 : decode cX3_findAll 10 = .ok (.invokevirtual 30, 3) := by decide +kernel
theorem dX3_findAll_13 : decode cX3_findAll 13 = .ok (.iinc 1 1, 3) := by decide +kernel
theorem dX3_findAll_16 : decode cX3_findAll 16 = .ok (.goto (-14), 3) := by decide +kernel
theorem dX3_findAll_19 : decode cX3_findAll 19 = .ok (.return_, 1) := by decide +kernel
set_option maxRecDepth 20000 in
theorem ggX3_find_X1_hasVertex : GoodIn wsX3_find wsX1_hasVertex := goodIn_r _ [10, 11, 90, 91, 92, 93, 94, 95, 96, 97, 98] (by decide +kernel) (by decide +kernel)
set_option maxRecDepth 20000 in
theorem gX3_find_X1_hasVertex_n34 : GoodIn wsX3_find (wsX1_hasVertex) := ggX3_find_X1_hasVertex
set_option maxRecDepth 20000 in
theorem ggX3_find_X2_clear : GoodIn wsX3_find wsX2_clear := goodIn_r _ [15, 16, 17, 18, 19, 20, 99, 100] (by decide +kernel) (by decide +kernel)
set_option maxRecDepth 20000 in
theorem gX3_find_X2_clear_n40 : GoodIn wsX3_find (wsX2_clear) := ggX3_find_X2_clear
set_option maxRecDepth 20000 in
theorem ggX3_find_X3_playAt : GoodIn wsX3_find wsX3_playAt := goodIn_r _ [25, 1, 3, 7, 8, 9, 10, 11, 26, 13, 27, 28, 16, 29, 30, 31, 32, 33, 34, 35, 36, 37, 38, 39, 40, 41, 24, 42, 43, 44, 45, 46, 47, 48, 49, 50, 51, 52, 53, 54, 55, 56, 57, 58, 59, 60, 5, 61, 62, 63, 64, 65, 66, 67, 68, 69, 70, 71, 72, 73, 74, 75, 76, 77, 78, 79, 80, 81, 21, 22, 23, 82, 6, 83, 84, 85, 86, 87, 88, 89, 90, 91, 92, 93, 94, 95, 96, 97, 98, 99, 100] (by decide +kernel) (by decide +kernel)
set_option maxRecDepth 20000 in
theorem gX3_find_X3_playAt : GoodIn wsX3_find (wsV RX3 45 RX3 yX3_playAt wsX3_playAt) := goodIn_app (goodIn_of _ (by decide +kernel)) ggX3_find_X3_playAt
theorem dX3_find_0 : decode cX3_find 0 = .ok (.aload_n 0, 1) := by decide +kernel
theorem dX3_find_1 : decode cX3_find 1 = .ok (.getfield 26, 3) := by decide +kernel
theorem dX3_find_4 : decode cX3_find 4 = .ok (.iload_n 1, 1) := by decide +kernel
theorem dX3_find_5 : decode cX3_find 5 = .ok (.invokevirtual 34, 3) := by decide +kernel
theorem dX3_find_8 : decode cX3_find 8 = .ok (.ifCond .eq 43, 3) := by decide +kernel
theorem dX3_find_11 : decode cX3_find 11 = .ok (.aload_n 0, 1) := by decide +kernel
theorem dX3_find_12 : decode cX3_find 12 = .ok (.getfield 18, 3) := by decide +kernel
theorem dX3_find_15 : decode cX3_find 15 = .ok (.iload_n 1, 1) := by decide +kernel
theorem dX3_find_16 : decode cX3_find 16 = .ok (.baload, 1) := by decide +kernel
theorem dX3_find_17 : decode cX3_find 17 = .ok (.ifCond .ne 34, 3) := by decide +kernel
theorem dX3_find_20 : decode cX3_find 20 = .ok (.aload_n 0, 1) := by decide +kernel
theorem dX3_find_21 : decode cX3_find 21 = .ok (.getfield 12, 3) := by decide +kernel
theorem dX3_find_24 : decode cX3_find 24 = .ok (.invokevirtual 40, 3) := by decide +kernel
theorem dX3_find_27 : decode cX3_find 27 = .ok (.aload_n 0, 1) := by decide +kernel
theorem dX3_find_28 : decode cX3_find 28 = .ok (.getfield 22, 3) := by decide +kernel
theorem dX3_find_31 : decode cX3_find 31 = .ok (.iload_n 1, 1) := by decide +kernel
theorem dX3_find_32 : decode cX3_find 32 = .ok (.aload_n 0, 1) := by decide +kernel
theorem dX3_find_33 : decode cX3_find 33 = .ok (.iload_n 1, 1) := by decide +kernel
theorem dX3_find_34 : decode cX3_find 34 = .ok (.iconst 0, 1) := by decide +kernel
theorem dX3_find_35 : decode cX3_find 35 = .ok (.iconst 0, 1) := by decide +kernel
theorem dX3_find_36 : decode cX3_find 36 = .ok (.ldc 43, 2) := by decide +kernel
theorem dX3_find_38 : decode cX3_find 38 = .ok (.ldc 44, 2) := by decide +kernel
theorem dX3_find_40 : decode cX3_find 40 = .ok (.invokevirtual 45, 3) := by decide +kernel
theorem dX3_find_43 : decode cX3_find 43 = .ok (.iastore, 1) := by decide +kernel
theorem dX3_find_44 : decode cX3_find 44 = .ok (.aload_n 0, 1) := by decide +kernel
theorem dX3_find_45 : decode cX3_find 45 = .ok (.getfield 18, 3) := by decide +kernel
theorem dX3_find_48 : decode cX3_find 48 = .ok (.iload_n 1, 1) := by decide +kernel
theorem dX3_find_49 : decode cX3_find 49 = .ok (.iconst 1, 1) := by decide +kernel
theorem dX3_find_50 : decode cX3_find 50 = .ok (.bastore, 1) := by decide +kernel
theorem dX3_find_51 : decode cX3_find 51 = .ok (.return_, 1) := by decide +kernel
set_option maxRecDepth 20000 in
theorem ggX3_topOf_X3_partsOf : GoodIn wsX3_topOf wsX3_partsOf := goodIn_r _ [5, 6, 7, 8, 9, 10, 11, 12, 17, 18, 19, 20, 21, 22, 23, 24, 25, 26, 27, 28, 29] (by decide +kernel) (by decide +kernel)
set_option maxRecDepth 20000 in
theorem gX3_topOf_X3_partsOf : GoodIn wsX3_topOf (wsV RX3 49 RX3 yX3_partsOf wsX3_partsOf) := goodIn_app (goodIn_of _ (by decide +kernel)) ggX3_topOf_X3_partsOf
set_option maxRecDepth 20000 in
theorem ggX3_topOf_X3_bottomOf : GoodIn wsX3_topOf wsX3_bottomOf := goodIn_r _ [16, 1, 2, 3, 4, 5, 6, 7, 8, 9, 10, 11, 12, 17, 18, 19, 20, 21, 22, 23, 24, 25, 26, 27, 28, 29] (by decide +kernel) (by decide +kernel)
set_option maxRecDepth 20000 in
theorem gX3_topOf_X3_bottomOf : GoodIn wsX3_topOf (wsV RX3 53 RX3 yX3_bottomOf wsX3_bottomOf) := goodIn_app (goodIn_of _ (by decide +kernel)) ggX3_topOf_X3_bottomOf
theorem dX3_topOf_0 : decode cX3_topOf 0 = .ok (.aload_n 0, 1) := by decide +kernel
theorem dX3_topOf_1 : decode cX3_topOf 1 = .ok (.iload_n 1, 1) := by decide +kernel
theorem dX3_topOf_2 : decode cX3_topOf 2 = .ok (.invokevirtual 49, 3) := by decide +kernel
theorem dX3_topOf_5 : decode cX3_topOf 5 = .ok (.aload_n 0, 1) := by decide +kernel
theorem dX3_topOf_6 : decode cX3_topOf 6 = .ok (.iload_n 1, 1) := by decide +kernel
theorem dX3_topOf_7 : decode cX3_topOf 7 = .ok (.invokevirtual 53, 3) := by decide +kernel
theorem dX3_topOf_10 : decode cX3_topOf 10 = .ok (.imul, 1) := by decide +kernel
theorem dX3_topOf_11 : decode cX3_topOf 11 = .ok (.sipush 420, 3) := by decide +kernel
theorem dX3_topOf_14 : decode cX3_topOf 14 = .ok (.idiv, 1) := by decide +kernel
theorem dX3_topOf_15 : decode cX3_topOf 15 = .ok (.ireturn, 1) := by decide +kernel
set_option maxRecDepth 20000 in
theorem ggX3_bottomOf_X3_partsOf : GoodIn wsX3_bottomOf wsX3_partsOf := goodIn_r _ [5, 6, 7, 8, 9, 10, 11, 12, 13, 14, 15, 16, 17, 18, 19, 20, 21, 22, 23, 24, 25] (by decide +kernel) (by decide +kernel)
set_option maxRecDepth 20000 in
theorem gX3_bottomOf_X3_partsOf : GoodIn wsX3_bottomOf (wsV RX3 49 RX3 yX3_partsOf wsX3_partsOf) := goodIn_app (goodIn_of _ (by decide +kernel)) ggX3_bottomOf_X3_partsOf
theorem dX3_bottomOf_0 : decode cX3_bottomOf 0 = .ok (.iconst 1, 1) := by decide +kernel
theorem dX3_bottomOf_1 : decode cX3_bottomOf 1 = .ok (.istore_n 2, 1) := by decide +kernel
theorem dX3_bottomOf_2 : decode cX3_bottomOf 2 = .ok (.iload_n 2, 1) := by decide +kernel
theorem dX3_bottomOf_3 : decode cX3_bottomOf 3 = .ok (.bipush 7, 2) := by decide +kernel
theorem dX3_bottomOf_5 : decode cX3_bottomOf 5 = .ok (.if_icmp .ge 25, 3) := by decide +kernel
theorem dX3_bottomOf_8 : decode cX3_bottomOf 8 = .ok (.aload_n 0, 1) := by decide +kernel
theorem dX3_bottomOf_9 : decode cX3_bottomOf 9 = .ok (.iload_n 1, 1) := by decide +kernel
theorem dX3_bottomOf_10 : decode cX3_bottomOf 10 = .ok (.invokevirtual 49, 3) := by decide +kernel
theorem dX3_bottomOf_13 : decode cX3_bottomOf 13 = .ok (.iload_n 2, 1) := by decide +kernel
theorem dX3_bottomOf_14 : decode cX3_bottomOf 14 = .ok (.imul, 1) := by decide +kernel
theorem dX3_bottomOf_15 : decode cX3_bottomOf 15 = .ok (.sipush 420, 3) := by decide +kernel
theorem dX3_bottomOf_18 : decode cX3_bottomOf 18 = .ok (.irem, 1) := by decide +kernel
theorem dX3_bottomOf_19 : decode cX3_bottomOf 19 = .ok (.ifCond .ne 5, 3) := by decide +kernel
theorem dX3_bottomOf_22 : decode cX3_bottomOf 22 = .ok (.iload_n 2, 1) := by decide +kernel
theorem dX3_bottomOf_23 : decode cX3_bottomOf 23 = .ok (.ireturn, 1) := by decide +kernel
theorem dX3_bottomOf_24 : decode cX3_bottomOf 24 = .ok (.iinc 2 1, 3) := by decide +kernel
theorem dX3_bottomOf_27 : decode cX3_bottomOf 27 = .ok (.goto (-25), 3) := by decide +kernel
theorem dX3_bottomOf_30 : decode cX3_bottomOf 30 = .ok (.bipush 7, 2) := by decide +kernel
theorem dX3_bottomOf_32 : decode cX3_bottomOf 32 = .ok (.ireturn, 1) := by decide +kernel
set_option maxRecDepth 20000 in
theorem ggX3_order_X3_partsOf : GoodIn wsX3_order wsX3_partsOf := goodIn_r _ [5, 6, 7, 8, 9, 10, 11, 12, 17, 18, 19, 20, 21, 22, 23, 24, 25, 26, 27, 28, 29] (by decide +kernel) (by decide +kernel)
set_option maxRecDepth 20000 in
theorem gX3_order_X3_partsOf : GoodIn wsX3_order (wsV RX3 49 RX3 yX3_partsOf wsX3_partsOf) := goodIn_app (goodIn_of _ (by decide +kernel)) ggX3_order_X3_partsOf
set_option maxRecDepth 20000 in
theorem ggX3_order_J6_compare_7cf53 : GoodIn wsX3_order wsJ6_compare_7cf53 := goodIn_r _ [16] (by decide +kernel) (by decide +kernel)
set_option maxRecDepth 20000 in
theorem gX3_order_J6_compare_7cf53 : GoodIn wsX3_order (va_wsS RX3 56 yJ6_compare_7cf53 wsJ6_compare_7cf53) := goodIn_app (goodIn_of _ (by decide +kernel)) ggX3_order_J6_compare_7cf53
theorem dX3_order_0 : decode cX3_order 0 = .ok (.aload_n 0, 1) := by decide +kernel
theorem dX3_order_1 : decode cX3_order 1 = .ok (.iload_n 1, 1) := by decide +kernel
theorem dX3_order_2 : decode cX3_order 2 = .ok (.invokevirtual 49, 3) := by decide +kernel
theorem dX3_order_5 : decode cX3_order 5 = .ok (.iload_n 3, 1) := by decide +kernel
theorem dX3_order_6 : decode cX3_order 6 = .ok (.imul, 1) := by decide +kernel
theorem dX3_order_7 : decode cX3_order 7 = .ok (.iload_n 2, 1) := by decide +kernel
theorem dX3_order_8 : decode cX3_order 8 = .ok (.sipush 420, 3) := by decide +kernel
theorem dX3_order_11 : decode cX3_order 11 = .ok (.imul, 1) := by decide +kernel
theorem dX3_order_12 : decode cX3_order 12 = .ok (.invokestatic 56, 3) := by decide +kernel
theorem dX3_order_15 : decode cX3_order 15 = .ok (.ireturn, 1) := by decide +kernel
set_option maxRecDepth 20000 in
theorem ggX3_partsOf_X1_hasVertex : GoodIn wsX3_partsOf wsX1_hasVertex := goodIn_r _ [6, 7, 12, 13, 14, 15, 16, 17, 18, 19, 20] (by decide +kernel) (by decide +kernel)
set_option maxRecDepth 20000 in
theorem gX3_partsOf_X1_hasVertex_n34 : GoodIn wsX3_partsOf (wsX1_hasVertex) := ggX3_partsOf_X1_hasVertex
theorem dX3_partsOf_0 : decode cX3_partsOf 0 = .ok (.aload_n 0, 1) := by decide +kernel
theorem dX3_partsOf_1 : decode cX3_partsOf 1 = .ok (.getfield 26, 3) := by decide +kernel
theorem dX3_partsOf_4 : decode cX3_partsOf 4 = .ok (.iload_n 1, 1) := by decide +kernel
theorem dX3_partsOf_5 : decode cX3_partsOf 5 = .ok (.invokevirtual 34, 3) := by decide +kernel
theorem dX3_partsOf_8 : decode cX3_partsOf 8 = .ok (.ifCond .eq 12, 3) := by decide +kernel
theorem dX3_partsOf_11 : decode cX3_partsOf 11 = .ok (.aload_n 0, 1) := by decide +kernel
theorem dX3_partsOf_12 : decode cX3_partsOf 12 = .ok (.getfield 22, 3) := by decide +kernel
theorem dX3_partsOf_15 : decode cX3_partsOf 15 = .ok (.iload_n 1, 1) := by decide +kernel
theorem dX3_partsOf_16 : decode cX3_partsOf 16 = .ok (.iaload, 1) := by decide +kernel
theorem dX3_partsOf_17 : decode cX3_partsOf 17 = .ok (.goto 4, 3) := by decide +kernel
theorem dX3_partsOf_20 : decode cX3_partsOf 20 = .ok (.iconst 0, 1) := by decide +kernel
theorem dX3_partsOf_21 : decode cX3_partsOf 21 = .ok (.ireturn, 1) := by decide +kernel
set_option maxRecDepth 20000 in
theorem ggX3_playAt_X1_hasVertex : GoodIn wsX3_playAt wsX1_hasVertex := goodIn_r _ [6, 7, 80, 81, 82, 83, 84, 85, 86, 87, 88] (by decide +kernel) (by decide +kernel)
set_option maxRecDepth 20000 in
theorem gX3_playAt_X1_hasVertex_n34 : GoodIn wsX3_playAt (wsX1_hasVertex) := ggX3_playAt_X1_hasVertex
set_option maxRecDepth 20000 in
theorem ggX3_playAt_X2_has : GoodIn wsX3_playAt wsX2_has := goodIn_r _ [11, 12, 13, 14, 15, 9, 16, 89, 90] (by decide +kernel) (by decide +kernel)
set_option maxRecDepth 20000 in
theorem gX3_playAt_X2_has_n62 : GoodIn wsX3_playAt (wsX2_has) := ggX3_playAt_X2_has
set_option maxRecDepth 20000 in
theorem ggX3_playAt_X2_stepsTo : GoodIn wsX3_playAt wsX2_stepsTo := goodIn_r _ [19, 12, 13, 14, 15, 9, 16, 89, 90] (by decide +kernel) (by decide +kernel)
set_option maxRecDepth 20000 in
theorem gX3_playAt_X2_stepsTo_n65 : GoodIn wsX3_playAt (wsX2_stepsTo) := ggX3_playAt_X2_stepsTo
set_option maxRecDepth 20000 in
theorem ggX3_playAt_X2_sumTo : GoodIn wsX3_playAt wsX2_sumTo := goodIn_r _ [22, 23, 13, 14, 15, 9, 16, 89, 90] (by decide +kernel) (by decide +kernel)
set_option maxRecDepth 20000 in
theorem gX3_playAt_X2_sumTo_n68 : GoodIn wsX3_playAt (wsX2_sumTo) := ggX3_playAt_X2_sumTo
set_option maxRecDepth 20000 in
theorem ggX3_playAt_X3_loopParts : GoodIn wsX3_playAt wsX3_loopParts := goodIn_r _ [27] (by decide +kernel) (by decide +kernel)
set_option maxRecDepth 20000 in
theorem gX3_playAt_X3_loopParts : GoodIn wsX3_playAt (va_wsS RX3 71 yX3_loopParts wsX3_loopParts) := goodIn_app (goodIn_of _ (by decide +kernel)) ggX3_playAt_X3_loopParts
set_option maxRecDepth 20000 in
theorem ggX3_playAt_X2_enter : GoodIn wsX3_playAt wsX2_enter := goodIn_r _ [30, 12, 23, 13, 14, 15, 9, 16, 89, 90] (by decide +kernel) (by decide +kernel)
set_option maxRecDepth 20000 in
theorem gX3_playAt_X2_enter_n74 : GoodIn wsX3_playAt (wsX2_enter) := ggX3_playAt_X2_enter
set_option maxRecDepth 20000 in
theorem ggX3_playAt_X1_ownerOf : GoodIn wsX3_playAt wsX1_ownerOf := goodIn_r _ [33, 34, 35, 3, 5, 4, 6, 7, 80, 81, 82, 83, 84, 85, 86, 87, 88] (by decide +kernel) (by decide +kernel)
set_option maxRecDepth 20000 in
theorem gX3_playAt_X1_ownerOf_n78 : GoodIn wsX3_playAt (wsX1_ownerOf) := ggX3_playAt_X1_ownerOf
set_option maxRecDepth 20000 in
theorem ggX3_playAt_X3_greatestPay : GoodIn wsX3_playAt wsX3_greatestPay := goodIn_r _ [45, 46, 1, 47, 48, 49, 50, 51, 4, 52, 53, 54, 55, 35, 3, 5, 6, 7, 56, 57, 58, 59, 60, 61, 62, 63, 64, 65, 66, 67, 68, 69, 70, 26, 71, 72, 73, 74, 75, 0, 2, 8, 9, 10, 11, 12, 13, 14, 15, 16, 17, 18, 19, 20, 21, 22, 23, 24, 25, 27, 28, 29, 30, 31, 32, 33, 34, 36, 37, 38, 39, 40, 41, 42, 43, 44, 76, 77, 78, 79, 80, 81, 82, 83, 84, 85, 86, 87, 88, 89, 90] (by decide +kernel) (by decide +kernel)
set_option maxRecDepth 20000 in
theorem gX3_playAt_X3_greatestPay : GoodIn wsX3_playAt (wsV RX3 81 RX3 yX3_greatestPay wsX3_greatestPay) := goodIn_app (goodIn_of _ (by decide +kernel)) ggX3_playAt_X3_greatestPay
set_option maxRecDepth 20000 in
theorem ggX3_playAt_X3_leastPay : GoodIn wsX3_playAt wsX3_leastPay := goodIn_r _ [71, 72, 1, 73, 74, 49, 75, 51, 4, 52, 53, 54, 55, 35, 3, 5, 6, 7, 56, 57, 58, 59, 60, 61, 62, 63, 64, 65, 66, 67, 68, 69, 70, 26, 45, 46, 47, 48, 50, 0, 2, 8, 9, 10, 11, 12, 13, 14, 15, 16, 17, 18, 19, 20, 21, 22, 23, 24, 25, 27, 28, 29, 30, 31, 32, 33, 34, 36, 37, 38, 39, 40, 41, 42, 43, 44, 76, 77, 78, 79, 80, 81, 82, 83, 84, 85, 86, 87, 88, 89, 90] (by decide +kernel) (by decide +kernel)
set_option maxRecDepth 20000 in
theorem gX3_playAt_X3_leastPay : GoodIn wsX3_playAt (wsV RX3 84 RX3 yX3_leastPay wsX3_leastPay) := goodIn_app (goodIn_of _ (by decide +kernel)) ggX3_playAt_X3_leastPay
set_option maxRecDepth 20000 in
theorem ggX3_playAt_X2_leave : GoodIn wsX3_playAt wsX2_leave := goodIn_r _ [44, 12, 13, 14, 15, 9, 16, 89, 90] (by decide +kernel) (by decide +kernel)
set_option maxRecDepth 20000 in
theorem gX3_playAt_X2_leave_n87 : GoodIn wsX3_playAt (wsX2_leave) := ggX3_playAt_X2_leave
theorem dX3_playAt_0 : decode cX3_playAt 0 = .ok (.aload_n 0, 1) := by decide +kernel
theorem dX3_playAt_1 : decode cX3_playAt 1 = .ok (.getfield 26, 3) := by decide +kernel
theorem dX3_playAt_4 : decode cX3_playAt 4 = .ok (.iload_n 1, 1) := by decide +kernel
theorem dX3_playAt_5 : decode cX3_playAt 5 = .ok (.invokevirtual 34, 3) := by decide +kernel
theorem dX3_playAt_8 : decode cX3_playAt 8 = .ok (.ifCond .eq 9, 3) := by decide +kernel
theorem dX3_playAt_11 : decode cX3_playAt 11 = .ok (.iload_n 2, 1) := by decide +kernel
theorem dX3_playAt_12 : decode cX3_playAt 12 = .ok (.bipush 7, 2) := by decide +kernel
theorem dX3_playAt_14 : decode cX3_playAt 14 = .ok (.if_icmp .le 5, 3) := by decide +kernel
theorem dX3_playAt_17 : decode cX3_playAt 17 = .ok (.iconst 0, 1) := by decide +kernel
theorem dX3_playAt_18 : decode cX3_playAt 18 = .ok (.ireturn, 1) := by decide +kernel
theorem dX3_playAt_19 : decode cX3_playAt 19 = .ok (.aload_n 0, 1) := by decide +kernel
theorem dX3_playAt_20 : decode cX3_playAt 20 = .ok (.getfield 12, 3) := by decide +kernel
theorem dX3_playAt_23 : decode cX3_playAt 23 = .ok (.iload_n 1, 1) := by decide +kernel
theorem dX3_playAt_24 : decode cX3_playAt 24 = .ok (.invokevirtual 62, 3) := by decide +kernel
theorem dX3_playAt_27 : decode cX3_playAt 27 = .ok (.ifCond .eq 27, 3) := by decide +kernel
theorem dX3_playAt_30 : decode cX3_playAt 30 = .ok (.iload_n 2, 1) := by decide +kernel
theorem dX3_playAt_31 : decode cX3_playAt 31 = .ok (.aload_n 0, 1) := by decide +kernel
theorem dX3_playAt_32 : decode cX3_playAt 32 = .ok (.getfield 12, 3) := by decide +kernel
theorem dX3_playAt_35 : decode cX3_playAt 35 = .ok (.iload_n 1, 1) := by decide +kernel
theorem dX3_playAt_36 : decode cX3_playAt 36 = .ok (.invokevirtual 65, 3) := by decide +kernel
theorem dX3_playAt_39 : decode cX3_playAt 39 = .ok (.isub, 1) := by decide +kernel
theorem dX3_playAt_40 : decode cX3_playAt 40 = .ok (.iload_n 3, 1) := by decide +kernel
theorem dX3_playAt_41 : decode cX3_playAt 41 = .ok (.aload_n 0, 1) := by decide +kernel
theorem dX3_playAt_42 : decode cX3_playAt 42 = .ok (.getfield 12, 3) := by decide +kernel
theorem dX3_playAt_45 : decode cX3_playAt 45 = .ok (.iload_n 1, 1) := by decide +kernel
theorem dX3_playAt_46 : decode cX3_playAt 46 = .ok (.invokevirtual 68, 3) := by decide +kernel
theorem dX3_playAt_49 : decode cX3_playAt 49 = .ok (.isub, 1) := by decide +kernel
theorem dX3_playAt_50 : decode cX3_playAt 50 = .ok (.invokestatic 71, 3) := by decide +kernel
theorem dX3_playAt_53 : decode cX3_playAt 53 = .ok (.ireturn, 1) := by decide +kernel
theorem dX3_playAt_54 : decode cX3_playAt 54 = .ok (.aload_n 0, 1) := by decide +kernel
theorem dX3_playAt_55 : decode cX3_playAt 55 = .ok (.getfield 12, 3) := by decide +kernel
theorem dX3_playAt_58 : decode cX3_playAt 58 = .ok (.iload_n 1, 1) := by decide +kernel
theorem dX3_playAt_59 : decode cX3_playAt 59 = .ok (.iload_n 2, 1) := by decide +kernel
theorem dX3_playAt_60 : decode cX3_playAt 60 = .ok (.iload_n 3, 1) := by decide +kernel
theorem dX3_playAt_61 : decode cX3_playAt 61 = .ok (.invokevirtual 74, 3) := by decide +kernel
theorem dX3_playAt_64 : decode cX3_playAt 64 = .ok (.aload_n 0, 1) := by decide +kernel
theorem dX3_playAt_65 : decode cX3_playAt 65 = .ok (.getfield 26, 3) := by decide +kernel
theorem dX3_playAt_68 : decode cX3_playAt 68 = .ok (.iload_n 1, 1) := by decide +kernel
theorem dX3_playAt_69 : decode cX3_playAt 69 = .ok (.invokevirtual 78, 3) := by decide +kernel
theorem dX3_playAt_72 : decode cX3_playAt 72 = .ok (.ifCond .ne 17, 3) := by decide +kernel
theorem dX3_playAt_75 : decode cX3_playAt 75 = .ok (.aload_n 0, 1) := by decide +kernel
theorem dX3_playAt_76 : decode cX3_playAt 76 = .ok (.iload_n 1, 1) := by decide +kernel
theorem dX3_playAt_77 : decode cX3_playAt 77 = .ok (.iload_n 2, 1) := by decide +kernel
theorem dX3_playAt_78 : decode cX3_playAt 78 = .ok (.iload_n 3, 1) := by decide +kernel
theorem dX3_playAt_79 : decode cX3_playAt 79 = .ok (.iload 4, 2) := by decide +kernel
theorem dX3_playAt_81 : decode cX3_playAt 81 = .ok (.iload 5, 2) := by decide +kernel
theorem dX3_playAt_83 : decode cX3_playAt 83 = .ok (.invokevirtual 81, 3) := by decide +kernel
theorem dX3_playAt_86 : decode cX3_playAt 86 = .ok (.goto 14, 3) := by decide +kernel
theorem dX3_playAt_89 : decode cX3_playAt 89 = .ok (.aload_n 0, 1) := by decide +kernel
theorem dX3_playAt_90 : decode cX3_playAt 90 = .ok (.iload_n 1, 1) := by decide +kernel
theorem dX3_playAt_91 : decode cX3_playAt 91 = .ok (.iload_n 2, 1) := by decide +kernel
theorem dX3_playAt_92 : decode cX3_playAt 92 = .ok (.iload_n 3, 1) := by decide +kernel
theorem dX3_playAt_93 : decode cX3_playAt 93 = .ok (.iload 4, 2) := by decide +kernel
theorem dX3_playAt_95 : decode cX3_playAt 95 = .ok (.iload 5, 2) := by decide +kernel
theorem dX3_playAt_97 : decode cX3_playAt 97 = .ok (.invokevirtual 84, 3) := by decide +kernel
theorem dX3_playAt_100 : decode cX3_playAt 100 = .ok (.istore 6, 2) := by decide +kernel
theorem dX3_playAt_102 : decode cX3_playAt 102 = .ok (.aload_n 0, 1) := by decide +kernel
theorem dX3_playAt_103 : decode cX3_playAt 103 = .ok (.getfield 12, 3) := by decide +kernel
theorem dX3_playAt_106 : decode cX3_playAt 106 = .ok (.iload_n 1, 1) := by decide +kernel
theorem dX3_playAt_107 : decode cX3_playAt 107 = .ok (.invokevirtual 87, 3) := by decide +kernel
theorem dX3_playAt_110 : decode cX3_playAt 110 = .ok (.iload 6, 2) := by decide +kernel
theorem dX3_playAt_112 : decode cX3_playAt 112 = .ok (.ireturn, 1) := by decide +kernel
set_option maxRecDepth 20000 in
theorem ggX3_greatestPay_X1_waysFrom : GoodIn wsX3_greatestPay wsX1_waysFrom := goodIn_r _ [10, 11, 12, 13, 14, 15, 8, 16, 17, 80, 81, 82, 83, 84, 85, 86, 87, 88] (by decide +kernel) (by decide +kernel)
set_option maxRecDepth 20000 in
theorem gX3_greatestPay_X1_waysFrom_n90 : GoodIn wsX3_greatestPay (wsX1_waysFrom) := ggX3_greatestPay_X1_waysFrom
set_option maxRecDepth 20000 in
theorem ggX3_greatestPay_X1_wayFrom : GoodIn wsX3_greatestPay wsX1_wayFrom := goodIn_r _ [20, 12, 11, 21, 13, 14, 15, 8, 16, 17, 80, 81, 82, 83, 84, 85, 86, 87, 88] (by decide +kernel) (by decide +kernel)
set_option maxRecDepth 20000 in
theorem gX3_greatestPay_X1_wayFrom_n93 : GoodIn wsX3_greatestPay (wsX1_wayFrom) := ggX3_greatestPay_X1_wayFrom
set_option maxRecDepth 20000 in
theorem ggX3_greatestPay_X1_targetOf : GoodIn wsX3_greatestPay wsX1_targetOf := goodIn_r _ [24, 25, 80, 81, 82, 83, 84, 85, 86, 87, 88] (by decide +kernel) (by decide +kernel)
set_option maxRecDepth 20000 in
theorem gX3_greatestPay_X1_targetOf_n96 : GoodIn wsX3_greatestPay (wsX1_targetOf) := ggX3_greatestPay_X1_targetOf
set_option maxRecDepth 20000 in
theorem ggX3_greatestPay_X1_weightOf : GoodIn wsX3_greatestPay wsX1_weightOf := goodIn_r _ [28, 29, 80, 81, 82, 83, 84, 85, 86, 87, 88] (by decide +kernel) (by decide +kernel)
set_option maxRecDepth 20000 in
theorem gX3_greatestPay_X1_weightOf_n99 : GoodIn wsX3_greatestPay (wsX1_weightOf) := ggX3_greatestPay_X1_weightOf
set_option maxRecDepth 20000 in
theorem ggX3_greatestPay_X3_playAt : GoodIn wsX3_greatestPay wsX3_playAt := goodIn_r _ [39, 2, 40, 14, 8, 15, 16, 17, 41, 42, 43, 44, 45, 46, 47, 48, 49, 50, 51, 52, 53, 54, 55, 56, 57, 58, 33, 59, 60, 61, 62, 63, 64, 65, 66, 13, 67, 68, 69, 70, 71, 72, 73, 74, 75, 0, 1, 3, 4, 5, 6, 7, 9, 10, 11, 12, 18, 19, 20, 21, 22, 23, 24, 25, 26, 27, 28, 29, 30, 31, 32, 34, 35, 36, 37, 38, 76, 77, 78, 79, 80, 81, 82, 83, 84, 85, 86, 87, 88, 89, 90] (by decide +kernel) (by decide +kernel)
set_option maxRecDepth 20000 in
theorem gX3_greatestPay_X3_playAt : GoodIn wsX3_greatestPay (wsV RX3 45 RX3 yX3_playAt wsX3_playAt) := goodIn_app (goodIn_of _ (by decide +kernel)) ggX3_greatestPay_X3_playAt
theorem dX3_greatestPay_0 : decode cX3_greatestPay 0 = .ok (.ldc 43, 2) := by decide +kernel
theorem dX3_greatestPay_2 : decode cX3_greatestPay 2 = .ok (.istore 6, 2) := by decide +kernel
theorem dX3_greatestPay_4 : decode cX3_greatestPay 4 = .ok (.aload_n 0, 1) := by decide +kernel
theorem dX3_greatestPay_5 : decode cX3_greatestPay 5 = .ok (.getfield 26, 3) := by decide +kernel
theorem dX3_greatestPay_8 : decode cX3_greatestPay 8 = .ok (.iload_n 1, 1) := by decide +kernel
theorem dX3_greatestPay_9 : decode cX3_greatestPay 9 = .ok (.invokevirtual 90, 3) := by decide +kernel
theorem dX3_greatestPay_12 : decode cX3_greatestPay 12 = .ok (.istore 7, 2) := by decide +kernel
theorem dX3_greatestPay_14 : decode cX3_greatestPay 14 = .ok (.iconst 0, 1) := by decide +kernel
theorem dX3_greatestPay_15 : decode cX3_greatestPay 15 = .ok (.istore 8, 2) := by decide +kernel
theorem dX3_greatestPay_17 : decode cX3_greatestPay 17 = .ok (.iload 8, 2) := by decide +kernel
theorem dX3_greatestPay_19 : decode cX3_greatestPay 19 = .ok (.iload 7, 2) := by decide +kernel
theorem dX3_greatestPay_21 : decode cX3_greatestPay 21 = .ok (.if_icmp .ge 75, 3) := by decide +kernel
theorem dX3_greatestPay_24 : decode cX3_greatestPay 24 = .ok (.iload 6, 2) := by decide +kernel
theorem dX3_greatestPay_26 : decode cX3_greatestPay 26 = .ok (.iload 5, 2) := by decide +kernel
theorem dX3_greatestPay_28 : decode cX3_greatestPay 28 = .ok (.if_icmp .ge 68, 3) := by decide +kernel
theorem dX3_greatestPay_31 : decode cX3_greatestPay 31 = .ok (.aload_n 0, 1) := by decide +kernel
theorem dX3_greatestPay_32 : decode cX3_greatestPay 32 = .ok (.getfield 26, 3) := by decide +kernel
theorem dX3_greatestPay_35 : decode cX3_greatestPay 35 = .ok (.iload_n 1, 1) := by decide +kernel
theorem dX3_greatestPay_36 : decode cX3_greatestPay 36 = .ok (.iload 8, 2) := by decide +kernel
theorem dX3_greatestPay_38 : decode cX3_greatestPay 38 = .ok (.invokevirtual 93, 3) := by decide +kernel
theorem dX3_greatestPay_41 : decode cX3_greatestPay 41 = .ok (.istore 9, 2) := by decide +kernel
theorem dX3_greatestPay_43 : decode cX3_greatestPay 43 = .ok (.aload_n 0, 1) := by decide +kernel
theorem dX3_greatestPay_44 : decode cX3_greatestPay 44 = .ok (.getfield 26, 3) := by decide +kernel
theorem dX3_greatestPay_47 : decode cX3_greatestPay 47 = .ok (.iload 9, 2) := by decide +kernel
theorem dX3_greatestPay_49 : decode cX3_greatestPay 49 = .ok (.invokevirtual 96, 3) := by decide +kernel
theorem dX3_greatestPay_52 : decode cX3_greatestPay 52 = .ok (.istore 10, 2) := by decide +kernel
theorem dX3_greatestPay_54 : decode cX3_greatestPay 54 = .ok (.iload 6, 2) := by decide +kernel
theorem dX3_greatestPay_56 : decode cX3_greatestPay 56 = .ok (.aload_n 0, 1) := by decide +kernel
theorem dX3_greatestPay_57 : decode cX3_greatestPay 57 = .ok (.iload 10, 2) := by decide +kernel
theorem dX3_greatestPay_59 : decode cX3_greatestPay 59 = .ok (.iload_n 2, 1) := by decide +kernel
theorem dX3_greatestPay_60 : decode cX3_greatestPay 60 = .ok (.iconst 1, 1) := by decide +kernel
theorem dX3_greatestPay_61 : decode cX3_greatestPay 61 = .ok (.iadd, 1) := by decide +kernel
theorem dX3_greatestPay_62 : decode cX3_greatestPay 62 = .ok (.iload_n 3, 1) := by decide +kernel
theorem dX3_greatestPay_63 : decode cX3_greatestPay 63 = .ok (.aload_n 0, 1) := by decide +kernel
theorem dX3_greatestPay_64 : decode cX3_greatestPay 64 = .ok (.getfield 26, 3) := by decide +kernel
theorem dX3_greatestPay_67 : decode cX3_greatestPay 67 = .ok (.iload 9, 2) := by decide +kernel
theorem dX3_greatestPay_69 : decode cX3_greatestPay 69 = .ok (.invokevirtual 99, 3) := by decide +kernel
theorem dX3_greatestPay_72 : decode cX3_greatestPay 72 = .ok (.iadd, 1) := by decide +kernel
theorem dX3_greatestPay_73 : decode cX3_greatestPay 73 = .ok (.iload 4, 2) := by decide +kernel
theorem dX3_greatestPay_75 : decode cX3_greatestPay 75 = .ok (.iload 6, 2) := by decide +kernel
theorem dX3_greatestPay_77 : decode cX3_greatestPay 77 = .ok (.invokestatic 102, 3) := by decide +kernel
theorem dX3_greatestPay_80 : decode cX3_greatestPay 80 = .ok (.iload 5, 2) := by decide +kernel
theorem dX3_greatestPay_82 : decode cX3_greatestPay 82 = .ok (.invokevirtual 45, 3) := by decide +kernel
theorem dX3_greatestPay_85 : decode cX3_greatestPay 85 = .ok (.invokestatic 102, 3) := by decide +kernel
theorem dX3_greatestPay_88 : decode cX3_greatestPay 88 = .ok (.istore 6, 2) := by decide +kernel
theorem dX3_greatestPay_90 : decode cX3_greatestPay 90 = .ok (.iinc 8 1, 3) := by decide +kernel
theorem dX3_greatestPay_93 : decode cX3_greatestPay 93 = .ok (.goto (-76), 3) := by decide +kernel
theorem dX3_greatestPay_96 : decode cX3_greatestPay 96 = .ok (.iload 6, 2) := by decide +kernel
theorem dX3_greatestPay_98 : decode cX3_greatestPay 98 = .ok (.ireturn, 1) := by decide +kernel
set_option maxRecDepth 20000 in
theorem ggX3_leastPay_X1_waysFrom : GoodIn wsX3_leastPay wsX1_waysFrom := goodIn_r _ [10, 11, 12, 13, 14, 15, 8, 16, 17, 80, 81, 82, 83, 84, 85, 86, 87, 88] (by decide +kernel) (by decide +kernel)
set_option maxRecDepth 20000 in
theorem gX3_leastPay_X1_waysFrom_n90 : GoodIn wsX3_leastPay (wsX1_waysFrom) := ggX3_leastPay_X1_waysFrom
set_option maxRecDepth 20000 in
theorem ggX3_leastPay_X1_wayFrom : GoodIn wsX3_leastPay wsX1_wayFrom := goodIn_r _ [20, 12, 11, 21, 13, 14, 15, 8, 16, 17, 80, 81, 82, 83, 84, 85, 86, 87, 88] (by decide +kernel) (by decide +kernel)
set_option maxRecDepth 20000 in
theorem gX3_leastPay_X1_wayFrom_n93 : GoodIn wsX3_leastPay (wsX1_wayFrom) := ggX3_leastPay_X1_wayFrom
set_option maxRecDepth 20000 in
theorem ggX3_leastPay_X1_targetOf : GoodIn wsX3_leastPay wsX1_targetOf := goodIn_r _ [24, 25, 80, 81, 82, 83, 84, 85, 86, 87, 88] (by decide +kernel) (by decide +kernel)
set_option maxRecDepth 20000 in
theorem gX3_leastPay_X1_targetOf_n96 : GoodIn wsX3_leastPay (wsX1_targetOf) := ggX3_leastPay_X1_targetOf
set_option maxRecDepth 20000 in
theorem ggX3_leastPay_X1_weightOf : GoodIn wsX3_leastPay wsX1_weightOf := goodIn_r _ [28, 29, 80, 81, 82, 83, 84, 85, 86, 87, 88] (by decide +kernel) (by decide +kernel)
set_option maxRecDepth 20000 in
theorem gX3_leastPay_X1_weightOf_n99 : GoodIn wsX3_leastPay (wsX1_weightOf) := ggX3_leastPay_X1_weightOf
set_option maxRecDepth 20000 in
theorem ggX3_leastPay_X3_playAt : GoodIn wsX3_leastPay wsX3_playAt := goodIn_r _ [39, 2, 40, 14, 8, 15, 16, 17, 41, 42, 43, 44, 45, 46, 47, 48, 49, 50, 51, 52, 53, 54, 55, 56, 57, 58, 33, 59, 60, 61, 62, 63, 64, 65, 66, 13, 67, 68, 69, 70, 71, 72, 73, 74, 75, 34, 35, 36, 37, 5, 38, 7, 9, 10, 11, 12, 18, 19, 20, 21, 22, 23, 24, 25, 26, 27, 28, 29, 30, 31, 32, 0, 1, 3, 4, 6, 76, 77, 78, 79, 80, 81, 82, 83, 84, 85, 86, 87, 88, 89, 90] (by decide +kernel) (by decide +kernel)
set_option maxRecDepth 20000 in
theorem gX3_leastPay_X3_playAt : GoodIn wsX3_leastPay (wsV RX3 45 RX3 yX3_playAt wsX3_playAt) := goodIn_app (goodIn_of _ (by decide +kernel)) ggX3_leastPay_X3_playAt
theorem dX3_leastPay_0 : decode cX3_leastPay 0 = .ok (.ldc 44, 2) := by decide +kernel
theorem dX3_leastPay_2 : decode cX3_leastPay 2 = .ok (.istore 6, 2) := by decide +kernel
theorem dX3_leastPay_4 : decode cX3_leastPay 4 = .ok (.aload_n 0, 1) := by decide +kernel
theorem dX3_leastPay_5 : decode cX3_leastPay 5 = .ok (.getfield 26, 3) := by decide +kernel
theorem dX3_leastPay_8 : decode cX3_leastPay 8 = .ok (.iload_n 1, 1) := by decide +kernel
theorem dX3_leastPay_9 : decode cX3_leastPay 9 = .ok (.invokevirtual 90, 3) := by decide +kernel
theorem dX3_leastPay_12 : decode cX3_leastPay 12 = .ok (.istore 7, 2) := by decide +kernel
theorem dX3_leastPay_14 : decode cX3_leastPay 14 = .ok (.iconst 0, 1) := by decide +kernel
theorem dX3_leastPay_15 : decode cX3_leastPay 15 = .ok (.istore 8, 2) := by decide +kernel
theorem dX3_leastPay_17 : decode cX3_leastPay 17 = .ok (.iload 8, 2) := by decide +kernel
theorem dX3_leastPay_19 : decode cX3_leastPay 19 = .ok (.iload 7, 2) := by decide +kernel
theorem dX3_leastPay_21 : decode cX3_leastPay 21 = .ok (.if_icmp .ge 75, 3) := by decide +kernel
theorem dX3_leastPay_24 : decode cX3_leastPay 24 = .ok (.iload 6, 2) := by decide +kernel
theorem dX3_leastPay_26 : decode cX3_leastPay 26 = .ok (.iload 4, 2) := by decide +kernel
theorem dX3_leastPay_28 : decode cX3_leastPay 28 = .ok (.if_icmp .le 68, 3) := by decide +kernel
theorem dX3_leastPay_31 : decode cX3_leastPay 31 = .ok (.aload_n 0, 1) := by decide +kernel
theorem dX3_leastPay_32 : decode cX3_leastPay 32 = .ok (.getfield 26, 3) := by decide +kernel
theorem dX3_leastPay_35 : decode cX3_leastPay 35 = .ok (.iload_n 1, 1) := by decide +kernel
theorem dX3_leastPay_36 : decode cX3_leastPay 36 = .ok (.iload 8, 2) := by decide +kernel
theorem dX3_leastPay_38 : decode cX3_leastPay 38 = .ok (.invokevirtual 93, 3) := by decide +kernel
theorem dX3_leastPay_41 : decode cX3_leastPay 41 = .ok (.istore 9, 2) := by decide +kernel
theorem dX3_leastPay_43 : decode cX3_leastPay 43 = .ok (.aload_n 0, 1) := by decide +kernel
theorem dX3_leastPay_44 : decode cX3_leastPay 44 = .ok (.getfield 26, 3) := by decide +kernel
theorem dX3_leastPay_47 : decode cX3_leastPay 47 = .ok (.iload 9, 2) := by decide +kernel
theorem dX3_leastPay_49 : decode cX3_leastPay 49 = .ok (.invokevirtual 96, 3) := by decide +kernel
theorem dX3_leastPay_52 : decode cX3_leastPay 52 = .ok (.istore 10, 2) := by decide +kernel
theorem dX3_leastPay_54 : decode cX3_leastPay 54 = .ok (.iload 6, 2) := by decide +kernel
theorem dX3_leastPay_56 : decode cX3_leastPay 56 = .ok (.aload_n 0, 1) := by decide +kernel
theorem dX3_leastPay_57 : decode cX3_leastPay 57 = .ok (.iload 10, 2) := by decide +kernel
theorem dX3_leastPay_59 : decode cX3_leastPay 59 = .ok (.iload_n 2, 1) := by decide +kernel
theorem dX3_leastPay_60 : decode cX3_leastPay 60 = .ok (.iconst 1, 1) := by decide +kernel
theorem dX3_leastPay_61 : decode cX3_leastPay 61 = .ok (.iadd, 1) := by decide +kernel
theorem dX3_leastPay_62 : decode cX3_leastPay 62 = .ok (.iload_n 3, 1) := by decide +kernel
theorem dX3_leastPay_63 : decode cX3_leastPay 63 = .ok (.aload_n 0, 1) := by decide +kernel
theorem dX3_leastPay_64 : decode cX3_leastPay 64 = .ok (.getfield 26, 3) := by decide +kernel
theorem dX3_leastPay_67 : decode cX3_leastPay 67 = .ok (.iload 9, 2) := by decide +kernel
theorem dX3_leastPay_69 : decode cX3_leastPay 69 = .ok (.invokevirtual 99, 3) := by decide +kernel
theorem dX3_leastPay_72 : decode cX3_leastPay 72 = .ok (.iadd, 1) := by decide +kernel
theorem dX3_leastPay_73 : decode cX3_leastPay 73 = .ok (.iload 4, 2) := by decide +kernel
theorem dX3_leastPay_75 : decode cX3_leastPay 75 = .ok (.iload 5, 2) := by decide +kernel
theorem dX3_leastPay_77 : decode cX3_leastPay 77 = .ok (.iload 6, 2) := by decide +kernel
theorem dX3_leastPay_79 : decode cX3_leastPay 79 = .ok (.invokestatic 107, 3) := by decide +kernel
theorem dX3_leastPay_82 : decode cX3_leastPay 82 = .ok (.invokevirtual 45, 3) := by decide +kernel
theorem dX3_leastPay_85 : decode cX3_leastPay 85 = .ok (.invokestatic 107, 3) := by decide +kernel
theorem dX3_leastPay_88 : decode cX3_leastPay 88 = .ok (.istore 6, 2) := by decide +kernel
theorem dX3_leastPay_90 : decode cX3_leastPay 90 = .ok (.iinc 8 1, 3) := by decide +kernel
theorem dX3_leastPay_93 : decode cX3_leastPay 93 = .ok (.goto (-76), 3) := by decide +kernel
theorem dX3_leastPay_96 : decode cX3_leastPay 96 = .ok (.iload 6, 2) := by decide +kernel
theorem dX3_leastPay_98 : decode cX3_leastPay 98 = .ok (.ireturn, 1) := by decide +kernel
theorem dX3_loopParts_0 : decode cX3_loopParts 0 = .ok (.iload_n 0, 1) := by decide +kernel
theorem dX3_loopParts_1 : decode cX3_loopParts 1 = .ok (.ifCond .le 13, 3) := by decide +kernel
theorem dX3_loopParts_4 : decode cX3_loopParts 4 = .ok (.sipush 420, 3) := by decide +kernel
theorem dX3_loopParts_7 : decode cX3_loopParts 7 = .ok (.iload_n 0, 1) := by decide +kernel
theorem dX3_loopParts_8 : decode cX3_loopParts 8 = .ok (.idiv, 1) := by decide +kernel
theorem dX3_loopParts_9 : decode cX3_loopParts 9 = .ok (.iload_n 1, 1) := by decide +kernel
theorem dX3_loopParts_10 : decode cX3_loopParts 10 = .ok (.imul, 1) := by decide +kernel
theorem dX3_loopParts_11 : decode cX3_loopParts 11 = .ok (.goto 4, 3) := by decide +kernel
theorem dX3_loopParts_14 : decode cX3_loopParts 14 = .ok (.iconst 0, 1) := by decide +kernel
theorem dX3_loopParts_15 : decode cX3_loopParts 15 = .ok (.ireturn, 1) := by decide +kernel
set_option maxRecDepth 20000 in
theorem ggX4_init_X1_init : GoodIn wsX4_init wsX1_init := goodIn_r _ [23, 24, 2, 3, 20, 25, 26, 27, 28, 29, 30, 31, 32, 33, 34, 56, 57, 58, 59, 60, 61, 62, 63, 64] (by decide +kernel) (by decide +kernel)
set_option maxRecDepth 20000 in
theorem gX4_init_X1_init_n9 : GoodIn wsX4_init (wsX1_init) := ggX4_init_X1_init
set_option maxRecDepth 20000 in
theorem ggX4_init_X3_init : GoodIn wsX4_init wsX3_init := goodIn_r _ [36, 37, 2, 3, 38, 17, 18, 39, 40, 41, 20, 42, 43, 44, 45, 46, 47, 48, 78, 79, 70, 71, 72, 73] (by decide +kernel) (by decide +kernel)
set_option maxRecDepth 20000 in
theorem gX4_init_X3_init_n18 : GoodIn wsX4_init (wsX3_init) := ggX4_init_X3_init
set_option maxRecDepth 20000 in
theorem ggX4_init_X0_init : GoodIn wsX4_init wsX0_init := goodIn_r _ [50, 51, 2, 3, 20, 52, 53, 54, 55, 74, 75, 76, 77] (by decide +kernel) (by decide +kernel)
set_option maxRecDepth 20000 in
theorem gX4_init_X0_init_n27 : GoodIn wsX4_init (wsX0_init) := ggX4_init_X0_init
set_option maxRecDepth 20000 in
theorem ggX4_init_X2_init : GoodIn wsX4_init wsX2_init := goodIn_r _ [45, 46, 2, 3, 20, 47, 48, 78, 79] (by decide +kernel) (by decide +kernel)
set_option maxRecDepth 20000 in
theorem gX4_init_X2_init_n36 : GoodIn wsX4_init (wsX2_init) := ggX4_init_X2_init
theorem dX4_init_0 : decode cX4_init 0 = .ok (.aload_n 0, 1) := by decide +kernel
theorem dX4_init_1 : decode cX4_init 1 = .ok (.invokespecial 1, 3) := by decide +kernel
theorem dX4_init_4 : decode cX4_init 4 = .ok (.aload_n 0, 1) := by decide +kernel
theorem dX4_init_5 : decode cX4_init 5 = .ok (.new 7, 3) := by decide +kernel
theorem dX4_init_8 : decode cX4_init 8 = .ok (.dup, 1) := by decide +kernel
theorem dX4_init_9 : decode cX4_init 9 = .ok (.invokespecial 9, 3) := by decide +kernel
theorem dX4_init_12 : decode cX4_init 12 = .ok (.putfield 10, 3) := by decide +kernel
theorem dX4_init_15 : decode cX4_init 15 = .ok (.aload_n 0, 1) := by decide +kernel
theorem dX4_init_16 : decode cX4_init 16 = .ok (.new 16, 3) := by decide +kernel
theorem dX4_init_19 : decode cX4_init 19 = .ok (.dup, 1) := by decide +kernel
theorem dX4_init_20 : decode cX4_init 20 = .ok (.aload_n 0, 1) := by decide +kernel
theorem dX4_init_21 : decode cX4_init 21 = .ok (.getfield 10, 3) := by decide +kernel
theorem dX4_init_24 : decode cX4_init 24 = .ok (.invokespecial 18, 3) := by decide +kernel
theorem dX4_init_27 : decode cX4_init 27 = .ok (.putfield 21, 3) := by decide +kernel
theorem dX4_init_30 : decode cX4_init 30 = .ok (.aload_n 0, 1) := by decide +kernel
theorem dX4_init_31 : decode cX4_init 31 = .ok (.new 25, 3) := by decide +kernel
theorem dX4_init_34 : decode cX4_init 34 = .ok (.dup, 1) := by decide +kernel
theorem dX4_init_35 : decode cX4_init 35 = .ok (.aload_n 0, 1) := by decide +kernel
theorem dX4_init_36 : decode cX4_init 36 = .ok (.getfield 10, 3) := by decide +kernel
theorem dX4_init_39 : decode cX4_init 39 = .ok (.aload_n 0, 1) := by decide +kernel
theorem dX4_init_40 : decode cX4_init 40 = .ok (.getfield 21, 3) := by decide +kernel
theorem dX4_init_43 : decode cX4_init 43 = .ok (.invokespecial 27, 3) := by decide +kernel
theorem dX4_init_46 : decode cX4_init 46 = .ok (.putfield 30, 3) := by decide +kernel
theorem dX4_init_49 : decode cX4_init 49 = .ok (.aload_n 0, 1) := by decide +kernel
theorem dX4_init_50 : decode cX4_init 50 = .ok (.new 34, 3) := by decide +kernel
theorem dX4_init_53 : decode cX4_init 53 = .ok (.dup, 1) := by decide +kernel
theorem dX4_init_54 : decode cX4_init 54 = .ok (.invokespecial 36, 3) := by decide +kernel
theorem dX4_init_57 : decode cX4_init 57 = .ok (.putfield 37, 3) := by decide +kernel
theorem dX4_init_60 : decode cX4_init 60 = .ok (.aload_n 0, 1) := by decide +kernel
theorem dX4_init_61 : decode cX4_init 61 = .ok (.bipush 7, 2) := by decide +kernel
theorem dX4_init_63 : decode cX4_init 63 = .ok (.newarray .int, 2) := by decide +kernel
theorem dX4_init_65 : decode cX4_init 65 = .ok (.putfield 41, 3) := by decide +kernel
theorem dX4_init_68 : decode cX4_init 68 = .ok (.return_, 1) := by decide +kernel
set_option maxRecDepth 20000 in
theorem ggX4_vertex_X4_checkPlayer : GoodIn wsX4_vertex wsX4_checkPlayer := goodIn_ca (goodIn_r _ [9, 10, 11] (by decide +kernel) (by decide +kernel)) (goodIn_sub (fun _ h => List.mem_cons_of_mem _ (List.mem_append_right _ h)) (by decide +kernel))
set_option maxRecDepth 20000 in
theorem gX4_vertex_X4_checkPlayer : GoodIn wsX4_vertex (wsV RX4 45 RX4 yX4_checkPlayer wsX4_checkPlayer) := goodIn_app (goodIn_of _ (by decide +kernel)) ggX4_vertex_X4_checkPlayer
set_option maxRecDepth 20000 in
theorem ggX4_vertex_X3_forget : GoodIn wsX4_vertex wsX3_forget := goodIn_r _ [15, 16, 38, 39, 40, 41] (by decide +kernel) (by decide +kernel)
set_option maxRecDepth 20000 in
theorem gX4_vertex_X3_forget_n60 : GoodIn wsX4_vertex (wsX3_forget) := ggX4_vertex_X3_forget
set_option maxRecDepth 20000 in
theorem ggX4_vertex_X1_addVertex : GoodIn wsX4_vertex wsX1_addVertex := goodIn_r _ [20, 21, 22, 23, 29, 30, 31, 32, 33, 34, 35, 36, 37] (by decide +kernel) (by decide +kernel)
set_option maxRecDepth 20000 in
theorem gX4_vertex_X1_addVertex_n63 : GoodIn wsX4_vertex (wsX1_addVertex) := ggX4_vertex_X1_addVertex
theorem dX4_vertex_0 : decode cX4_vertex 0 = .ok (.aload_n 0, 1) := by decide +kernel
theorem dX4_vertex_1 : decode cX4_vertex 1 = .ok (.iload_n 1, 1) := by decide +kernel
theorem dX4_vertex_2 : decode cX4_vertex 2 = .ok (.invokevirtual 45, 3) := by decide +kernel
theorem dX4_vertex_5 : decode cX4_vertex 5 = .ok (.aload_n 0, 1) := by decide +kernel
theorem dX4_vertex_6 : decode cX4_vertex 6 = .ok (.getfield 10, 3) := by decide +kernel
theorem dX4_vertex_9 : decode cX4_vertex 9 = .ok (.getfield 49, 3) := by decide +kernel
theorem dX4_vertex_12 : decode cX4_vertex 12 = .ok (.bipush 7, 2) := by decide +kernel
theorem dX4_vertex_14 : decode cX4_vertex 14 = .ok (.if_icmp .lt 13, 3) := by decide +kernel
theorem dX4_vertex_17 : decode cX4_vertex 17 = .ok (.new 53, 3) := by decide +kernel
theorem dX4_vertex_20 : decode cX4_vertex 20 = .ok (.dup, 1) := by decide +kernel
theorem dX4_vertex_21 : decode cX4_vertex 21 = .ok (.ldc 55, 2) := by decide +kernel
theorem dX4_vertex_23 : decode cX4_vertex 23 = .ok (.invokespecial 57, 3) := by decide +kernel
theorem dX4_vertex_26 : decode cX4_vertex 26 = .ok (.athrow, 1) := by decide +kernel
theorem dX4_vertex_27 : decode cX4_vertex 27 = .ok (.aload_n 0, 1) := by decide +kernel
theorem dX4_vertex_28 : decode cX4_vertex 28 = .ok (.getfield 21, 3) := by decide +kernel
theorem dX4_vertex_31 : decode cX4_vertex 31 = .ok (.invokevirtual 60, 3) := by decide +kernel
theorem dX4_vertex_34 : decode cX4_vertex 34 = .ok (.aload_n 0, 1) := by decide +kernel
theorem dX4_vertex_35 : decode cX4_vertex 35 = .ok (.getfield 10, 3) := by decide +kernel
theorem dX4_vertex_38 : decode cX4_vertex 38 = .ok (.iload_n 1, 1) := by decide +kernel
theorem dX4_vertex_39 : decode cX4_vertex 39 = .ok (.invokevirtual 63, 3) := by decide +kernel
theorem dX4_vertex_42 : decode cX4_vertex 42 = .ok (.ireturn, 1) := by decide +kernel
set_option maxRecDepth 20000 in
theorem ggX4_edge_X4_checkVertex : GoodIn wsX4_edge wsX4_checkVertex := goodIn_ca (goodIn_r _ [11, 1, 2, 5, 12, 13, 14, 15, 16, 32, 33, 34, 35, 36, 37, 38, 39, 40, 41, 42, 43, 44, 45] (by decide +kernel) (by decide +kernel)) (goodIn_sub (fun _ h => List.mem_cons_of_mem _ (List.mem_append_left _ (List.mem_append_right _ h))) (by decide +kernel))
set_option maxRecDepth 20000 in
theorem gX4_edge_X4_checkVertex : GoodIn wsX4_edge (wsV RX4 67 RX4 yX4_checkVertex wsX4_checkVertex) := goodIn_app (goodIn_of _ (by decide +kernel)) ggX4_edge_X4_checkVertex
set_option maxRecDepth 20000 in
theorem ggX4_edge_X3_forget : GoodIn wsX4_edge wsX3_forget := goodIn_r _ [20, 21, 46, 47, 48, 49] (by decide +kernel) (by decide +kernel)
set_option maxRecDepth 20000 in
theorem gX4_edge_X3_forget_n60 : GoodIn wsX4_edge (wsX3_forget) := ggX4_edge_X3_forget
set_option maxRecDepth 20000 in
theorem ggX4_edge_X1_addEdge : GoodIn wsX4_edge wsX1_addEdge := goodIn_r _ [24, 25, 26, 27, 28, 29, 30, 31, 12, 14, 13, 15, 16, 37, 38, 39, 40, 41, 42, 43, 44, 45] (by decide +kernel) (by decide +kernel)
set_option maxRecDepth 20000 in
theorem gX4_edge_X1_addEdge_n80 : GoodIn wsX4_edge (wsX1_addEdge) := ggX4_edge_X1_addEdge
theorem dX4_edge_0 : decode cX4_edge 0 = .ok (.aload_n 0, 1) := by decide +kernel
theorem dX4_edge_1 : decode cX4_edge 1 = .ok (.iload_n 1, 1) := by decide +kernel
theorem dX4_edge_2 : decode cX4_edge 2 = .ok (.invokevirtual 67, 3) := by decide +kernel
theorem dX4_edge_5 : decode cX4_edge 5 = .ok (.aload_n 0, 1) := by decide +kernel
theorem dX4_edge_6 : decode cX4_edge 6 = .ok (.iload_n 2, 1) := by decide +kernel
theorem dX4_edge_7 : decode cX4_edge 7 = .ok (.invokevirtual 67, 3) := by decide +kernel
theorem dX4_edge_10 : decode cX4_edge 10 = .ok (.iload_n 3, 1) := by decide +kernel
theorem dX4_edge_11 : decode cX4_edge 11 = .ok (.bipush (-9), 2) := by decide +kernel
theorem dX4_edge_13 : decode cX4_edge 13 = .ok (.if_icmp .lt 9, 3) := by decide +kernel
theorem dX4_edge_16 : decode cX4_edge 16 = .ok (.iload_n 3, 1) := by decide +kernel
theorem dX4_edge_17 : decode cX4_edge 17 = .ok (.bipush 9, 2) := by decide +kernel
theorem dX4_edge_19 : decode cX4_edge 19 = .ok (.if_icmp .le 13, 3) := by decide +kernel
theorem dX4_edge_22 : decode cX4_edge 22 = .ok (.new 70, 3) := by decide +kernel
theorem dX4_edge_25 : decode cX4_edge 25 = .ok (.dup, 1) := by decide +kernel
theorem dX4_edge_26 : decode cX4_edge 26 = .ok (.ldc 72, 2) := by decide +kernel
theorem dX4_edge_28 : decode cX4_edge 28 = .ok (.invokespecial 74, 3) := by decide +kernel
theorem dX4_edge_31 : decode cX4_edge 31 = .ok (.athrow, 1) := by decide +kernel
theorem dX4_edge_32 : decode cX4_edge 32 = .ok (.aload_n 0, 1) := by decide +kernel
theorem dX4_edge_33 : decode cX4_edge 33 = .ok (.getfield 10, 3) := by decide +kernel
theorem dX4_edge_36 : decode cX4_edge 36 = .ok (.getfield 75, 3) := by decide +kernel
theorem dX4_edge_39 : decode cX4_edge 39 = .ok (.bipush 24, 2) := by decide +kernel
theorem dX4_edge_41 : decode cX4_edge 41 = .ok (.if_icmp .lt 13, 3) := by decide +kernel
theorem dX4_edge_44 : decode cX4_edge 44 = .ok (.new 53, 3) := by decide +kernel
theorem dX4_edge_47 : decode cX4_edge 47 = .ok (.dup, 1) := by decide +kernel
theorem dX4_edge_48 : decode cX4_edge 48 = .ok (.ldc 78, 2) := by decide +kernel
theorem dX4_edge_50 : decode cX4_edge 50 = .ok (.invokespecial 57, 3) := by decide +kernel
theorem dX4_edge_53 : decode cX4_edge 53 = .ok (.athrow, 1) := by decide +kernel
theorem dX4_edge_54 : decode cX4_edge 54 = .ok (.aload_n 0, 1) := by decide +kernel
theorem dX4_edge_55 : decode cX4_edge 55 = .ok (.getfield 21, 3) := by decide +kernel
theorem dX4_edge_58 : decode cX4_edge 58 = .ok (.invokevirtual 60, 3) := by decide +kernel
theorem dX4_edge_61 : decode cX4_edge 61 = .ok (.aload_n 0, 1) := by decide +kernel
theorem dX4_edge_62 : decode cX4_edge 62 = .ok (.getfield 10, 3) := by decide +kernel
theorem dX4_edge_65 : decode cX4_edge 65 = .ok (.iload_n 1, 1) := by decide +kernel
theorem dX4_edge_66 : decode cX4_edge 66 = .ok (.iload_n 2, 1) := by decide +kernel
theorem dX4_edge_67 : decode cX4_edge 67 = .ok (.iload_n 3, 1) := by decide +kernel
theorem dX4_edge_68 : decode cX4_edge 68 = .ok (.invokevirtual 80, 3) := by decide +kernel
theorem dX4_edge_71 : decode cX4_edge 71 = .ok (.ireturn, 1) := by decide +kernel
set_option maxRecDepth 20000 in
theorem ggX4_fix_X4_checkVertex : GoodIn wsX4_fix wsX4_checkVertex := goodIn_ca (goodIn_r _ [9, 1, 2, 3, 10, 11, 12, 13, 14, 30, 31, 32, 33, 34, 35, 36, 37, 38, 39, 40, 41, 42, 43] (by decide +kernel) (by decide +kernel)) (goodIn_sub (fun _ h => List.mem_cons_of_mem _ (List.mem_append_right _ h)) (by decide +kernel))
set_option maxRecDepth 20000 in
theorem gX4_fix_X4_checkVertex : GoodIn wsX4_fix (wsV RX4 67 RX4 yX4_checkVertex wsX4_checkVertex) := goodIn_app (goodIn_of _ (by decide +kernel)) ggX4_fix_X4_checkVertex
set_option maxRecDepth 20000 in
theorem ggX4_fix_X1_isFrom : GoodIn wsX4_fix wsX1_isFrom := goodIn_r _ [17, 18, 19, 35, 36, 37, 38, 39, 40, 41, 42, 43] (by decide +kernel) (by decide +kernel)
set_option maxRecDepth 20000 in
theorem gX4_fix_X1_isFrom_n84 : GoodIn wsX4_fix (wsX1_isFrom) := ggX4_fix_X1_isFrom
set_option maxRecDepth 20000 in
theorem ggX4_fix_X3_forget : GoodIn wsX4_fix wsX3_forget := goodIn_r _ [23, 24, 44, 45, 46, 47] (by decide +kernel) (by decide +kernel)
set_option maxRecDepth 20000 in
theorem gX4_fix_X3_forget_n60 : GoodIn wsX4_fix (wsX3_forget) := ggX4_fix_X3_forget
set_option maxRecDepth 20000 in
theorem ggX4_fix_X1_setFixed : GoodIn wsX4_fix wsX1_setFixed := goodIn_r _ [27, 28, 29, 10, 12, 11, 13, 14, 35, 36, 37, 38, 39, 40, 41, 42, 43] (by decide +kernel) (by decide +kernel)
set_option maxRecDepth 20000 in
theorem gX4_fix_X1_setFixed_n90 : GoodIn wsX4_fix (wsX1_setFixed) := ggX4_fix_X1_setFixed
theorem dX4_fix_0 : decode cX4_fix 0 = .ok (.aload_n 0, 1) := by decide +kernel
theorem dX4_fix_1 : decode cX4_fix 1 = .ok (.iload_n 1, 1) := by decide +kernel
theorem dX4_fix_2 : decode cX4_fix 2 = .ok (.invokevirtual 67, 3) := by decide +kernel
theorem dX4_fix_5 : decode cX4_fix 5 = .ok (.iload_n 2, 1) := by decide +kernel
theorem dX4_fix_6 : decode cX4_fix 6 = .ok (.iconst (-1), 1) := by decide +kernel
theorem dX4_fix_7 : decode cX4_fix 7 = .ok (.if_icmp .eq 25, 3) := by decide +kernel
theorem dX4_fix_10 : decode cX4_fix 10 = .ok (.aload_n 0, 1) := by decide +kernel
theorem dX4_fix_11 : decode cX4_fix 11 = .ok (.getfield 10, 3) := by decide +kernel
theorem dX4_fix_14 : decode cX4_fix 14 = .ok (.iload_n 2, 1) := by decide +kernel
theorem dX4_fix_15 : decode cX4_fix 15 = .ok (.iload_n 1, 1) := by decide +kernel
theorem dX4_fix_16 : decode cX4_fix 16 = .ok (.invokevirtual 84, 3) := by decide +kernel
theorem dX4_fix_19 : decode cX4_fix 19 = .ok (.ifCond .ne 13, 3) := by decide +kernel
theorem dX4_fix_22 : decode cX4_fix 22 = .ok (.new 70, 3) := by decide +kernel
theorem dX4_fix_25 : decode cX4_fix 25 = .ok (.dup, 1) := by decide +kernel
theorem dX4_fix_26 : decode cX4_fix 26 = .ok (.ldc 88, 2) := by decide +kernel
theorem dX4_fix_28 : decode cX4_fix 28 = .ok (.invokespecial 74, 3) := by decide +kernel
theorem dX4_fix_31 : decode cX4_fix 31 = .ok (.athrow, 1) := by decide +kernel
theorem dX4_fix_32 : decode cX4_fix 32 = .ok (.aload_n 0, 1) := by decide +kernel
theorem dX4_fix_33 : decode cX4_fix 33 = .ok (.getfield 21, 3) := by decide +kernel
theorem dX4_fix_36 : decode cX4_fix 36 = .ok (.invokevirtual 60, 3) := by decide +kernel
theorem dX4_fix_39 : decode cX4_fix 39 = .ok (.aload_n 0, 1) := by decide +kernel
theorem dX4_fix_40 : decode cX4_fix 40 = .ok (.getfield 10, 3) := by decide +kernel
theorem dX4_fix_43 : decode cX4_fix 43 = .ok (.iload_n 1, 1) := by decide +kernel
theorem dX4_fix_44 : decode cX4_fix 44 = .ok (.iload_n 2, 1) := by decide +kernel
theorem dX4_fix_45 : decode cX4_fix 45 = .ok (.invokevirtual 90, 3) := by decide +kernel
theorem dX4_fix_48 : decode cX4_fix 48 = .ok (.return_, 1) := by decide +kernel
set_option maxRecDepth 20000 in
theorem ggX4_fixed_X4_checkVertex : GoodIn wsX4_fixed wsX4_checkVertex := goodIn_ca (goodIn_r _ [6, 7, 8, 1, 9, 10, 11, 12, 13, 19, 20, 21, 22, 23, 24, 25, 26, 27, 28, 29, 30, 31, 32] (by decide +kernel) (by decide +kernel)) (goodIn_sub (fun _ h => List.mem_cons_of_mem _ (List.mem_append_right _ h)) (by decide +kernel))
set_option maxRecDepth 20000 in
theorem gX4_fixed_X4_checkVertex : GoodIn wsX4_fixed (wsV RX4 67 RX4 yX4_checkVertex wsX4_checkVertex) := goodIn_app (goodIn_of _ (by decide +kernel)) ggX4_fixed_X4_checkVertex
set_option maxRecDepth 20000 in
theorem ggX4_fixed_X1_fixedOf : GoodIn wsX4_fixed wsX1_fixedOf := goodIn_r _ [16, 17, 18, 9, 11, 10, 12, 13, 24, 25, 26, 27, 28, 29, 30, 31, 32] (by decide +kernel) (by decide +kernel)
set_option maxRecDepth 20000 in
theorem gX4_fixed_X1_fixedOf_n94 : GoodIn wsX4_fixed (wsX1_fixedOf) := ggX4_fixed_X1_fixedOf
theorem dX4_fixed_0 : decode cX4_fixed 0 = .ok (.aload_n 0, 1) := by decide +kernel
theorem dX4_fixed_1 : decode cX4_fixed 1 = .ok (.iload_n 1, 1) := by decide +kernel
theorem dX4_fixed_2 : decode cX4_fixed 2 = .ok (.invokevirtual 67, 3) := by decide +kernel
theorem dX4_fixed_5 : decode cX4_fixed 5 = .ok (.aload_n 0, 1) := by decide +kernel
theorem dX4_fixed_6 : decode cX4_fixed 6 = .ok (.getfield 10, 3) := by decide +kernel
theorem dX4_fixed_9 : decode cX4_fixed 9 = .ok (.iload_n 1, 1) := by decide +kernel
theorem dX4_fixed_10 : decode cX4_fixed 10 = .ok (.invokevirtual 94, 3) := by decide +kernel
theorem dX4_fixed_13 : decode cX4_fixed 13 = .ok (.ireturn, 1) := by decide +kernel
set_option maxRecDepth 20000 in
theorem ggX4_credit_X4_checkVertex : GoodIn wsX4_credit wsX4_checkVertex := goodIn_ca (goodIn_r _ [7, 8, 9, 10, 11, 12, 13, 14, 15, 153, 154, 155, 156, 157, 158, 159, 160, 161, 162, 163, 164, 165, 166] (by decide +kernel) (by decide +kernel)) (goodIn_sub (fun _ h => List.mem_cons_of_mem _ (List.mem_append_left _ (List.mem_append_right _ h))) (by decide +kernel))
set_option maxRecDepth 20000 in
theorem gX4_credit_X4_checkVertex : GoodIn wsX4_credit (wsV RX4 67 RX4 yX4_checkVertex wsX4_checkVertex) := goodIn_app (goodIn_of _ (by decide +kernel)) ggX4_credit_X4_checkVertex
set_option maxRecDepth 20000 in
theorem ggX4_credit_X4_checkComplete : GoodIn wsX4_credit wsX4_checkComplete := goodIn_ca (goodIn_r _ [19, 20, 21, 10, 22, 12, 23, 24, 15, 25, 26, 27, 28, 29, 30, 31, 11, 13, 14, 153, 154, 155, 156, 157, 158, 159, 160, 161, 162, 163, 164, 165, 166] (by decide +kernel) (by decide +kernel)) (goodIn_sub (fun _ h => List.mem_cons_of_mem _ (List.mem_append_right _ h)) (by decide +kernel))
set_option maxRecDepth 20000 in
theorem gX4_credit_X4_checkComplete : GoodIn wsX4_credit (wsV RX4 97 RX4 yX4_checkComplete wsX4_checkComplete) := goodIn_app (goodIn_of _ (by decide +kernel)) ggX4_credit_X4_checkComplete
set_option maxRecDepth 20000 in
theorem ggX4_credit_X3_findAll : GoodIn wsX4_credit wsX3_findAll := goodIn_r _ [35, 36, 37, 38, 33, 39, 40, 41, 42, 43, 44, 45, 11, 12, 13, 14, 15, 46, 47, 48, 49, 50, 51, 52, 53, 54, 55, 56, 57, 58, 59, 60, 61, 62, 63, 64, 65, 66, 67, 68, 69, 70, 71, 72, 73, 74, 75, 76, 77, 78, 79, 80, 81, 82, 31, 83, 84, 85, 86, 87, 88, 89, 90, 91, 92, 93, 94, 95, 96, 26, 27, 28, 29, 30, 97, 98, 99, 100, 101, 102, 103, 104, 105, 106, 107, 108, 109, 110, 111, 112, 167, 168, 169, 170, 158, 159, 160, 161, 162, 163, 164, 165, 166, 171, 172] (by decide +kernel) (by decide +kernel)
set_option maxRecDepth 20000 in
theorem gX4_credit_X3_findAll_n100 : GoodIn wsX4_credit (wsX3_findAll) := ggX4_credit_X3_findAll
set_option maxRecDepth 20000 in
theorem ggX4_credit_X0_solve : GoodIn wsX4_credit wsX0_solve := goodIn_r _ [116, 117, 118, 119, 120, 105, 12, 106, 107, 108, 121, 33, 122, 123, 124, 125, 126, 127, 40, 43, 11, 13, 14, 15, 128, 129, 130, 131, 132, 133, 134, 114, 135, 79, 80, 81, 82, 31, 136, 137, 138, 139, 26, 27, 28, 29, 30, 97, 98, 99, 100, 140, 141, 142, 143, 144, 94, 95, 96, 101, 102, 103, 104, 145, 146, 147, 148, 149, 150, 151, 152, 173, 174, 175, 176, 158, 159, 160, 161, 162, 163, 164, 165, 166, 167, 168, 169, 170] (by decide +kernel) (by decide +kernel)
set_option maxRecDepth 20000 in
theorem gX4_credit_X0_solve_n103 : GoodIn wsX4_credit (wsX0_solve) := ggX4_credit_X0_solve
set_option maxRecDepth 20000 in
theorem ggX4_credit_X0_needOf : GoodIn wsX4_credit wsX0_needOf := goodIn_r _ [148, 119, 173, 174, 175, 176] (by decide +kernel) (by decide +kernel)
set_option maxRecDepth 20000 in
theorem gX4_credit_X0_needOf_n107 : GoodIn wsX4_credit (wsX0_needOf) := ggX4_credit_X0_needOf
theorem dX4_credit_0 : decode cX4_credit 0 = .ok (.aload_n 0, 1) := by decide +kernel
theorem dX4_credit_1 : decode cX4_credit 1 = .ok (.iload_n 1, 1) := by decide +kernel
theorem dX4_credit_2 : decode cX4_credit 2 = .ok (.invokevirtual 67, 3) := by decide +kernel
theorem dX4_credit_5 : decode cX4_credit 5 = .ok (.aload_n 0, 1) := by decide +kernel
theorem dX4_credit_6 : decode cX4_credit 6 = .ok (.invokevirtual 97, 3) := by decide +kernel
theorem dX4_credit_9 : decode cX4_credit 9 = .ok (.aload_n 0, 1) := by decide +kernel
theorem dX4_credit_10 : decode cX4_credit 10 = .ok (.getfield 21, 3) := by decide +kernel
theorem dX4_credit_13 : decode cX4_credit 13 = .ok (.invokevirtual 100, 3) := by decide +kernel
theorem dX4_credit_16 : decode cX4_credit 16 = .ok (.aload_n 0, 1) := by decide +kernel
theorem dX4_credit_17 : decode cX4_credit 17 = .ok (.getfield 30, 3) := by decide +kernel
theorem dX4_credit_20 : decode cX4_credit 20 = .ok (.iconst 0, 1) := by decide +kernel
theorem dX4_credit_21 : decode cX4_credit 21 = .ok (.iconst 0, 1) := by decide +kernel
theorem dX4_credit_22 : decode cX4_credit 22 = .ok (.iconst 1, 1) := by decide +kernel
theorem dX4_credit_23 : decode cX4_credit 23 = .ok (.invokevirtual 103, 3) := by decide +kernel
theorem dX4_credit_26 : decode cX4_credit 26 = .ok (.aload_n 0, 1) := by decide +kernel
theorem dX4_credit_27 : decode cX4_credit 27 = .ok (.getfield 30, 3) := by decide +kernel
theorem dX4_credit_30 : decode cX4_credit 30 = .ok (.iload_n 1, 1) := by decide +kernel
theorem dX4_credit_31 : decode cX4_credit 31 = .ok (.invokevirtual 107, 3) := by decide +kernel
theorem dX4_credit_34 : decode cX4_credit 34 = .ok (.ireturn, 1) := by decide +kernel
set_option maxRecDepth 20000 in
theorem ggX4_reaches_X4_checkVertex : GoodIn wsX4_reaches wsX4_checkVertex := goodIn_ca (goodIn_r _ [8, 1, 2, 9, 10, 11, 12, 13, 14, 119, 120, 121, 122, 123, 124, 125, 126, 127, 128, 129, 130, 131, 132] (by decide +kernel) (by decide +kernel)) (goodIn_sub (fun _ h => List.mem_cons_of_mem _ (List.mem_append_left _ (List.mem_append_right _ h))) (by decide +kernel))
set_option maxRecDepth 20000 in
theorem gX4_reaches_X4_checkVertex : GoodIn wsX4_reaches (wsV RX4 67 RX4 yX4_checkVertex wsX4_checkVertex) := goodIn_app (goodIn_of _ (by decide +kernel)) ggX4_reaches_X4_checkVertex
set_option maxRecDepth 20000 in
theorem ggX4_reaches_X4_checkComplete : GoodIn wsX4_reaches wsX4_checkComplete := goodIn_ca (goodIn_r _ [18, 19, 20, 9, 21, 11, 22, 23, 14, 24, 25, 26, 27, 28, 29, 30, 10, 12, 13, 119, 120, 121, 122, 123, 124, 125, 126, 127, 128, 129, 130, 131, 132] (by decide +kernel) (by decide +kernel)) (goodIn_sub (fun _ h => List.mem_cons_of_mem _ (List.mem_append_right _ h)) (by decide +kernel))
set_option maxRecDepth 20000 in
theorem gX4_reaches_X4_checkComplete : GoodIn wsX4_reaches (wsV RX4 97 RX4 yX4_checkComplete wsX4_checkComplete) := goodIn_app (goodIn_of _ (by decide +kernel)) ggX4_reaches_X4_checkComplete
set_option maxRecDepth 20000 in
theorem ggX4_reaches_X3_find : GoodIn wsX4_reaches wsX3_find := goodIn_r _ [34, 35, 36, 37, 38, 39, 40, 10, 11, 12, 13, 14, 41, 42, 43, 44, 45, 46, 47, 48, 49, 50, 51, 52, 32, 53, 54, 55, 56, 57, 58, 59, 60, 61, 62, 63, 64, 65, 66, 67, 68, 69, 70, 71, 72, 73, 74, 75, 76, 77, 30, 78, 79, 80, 81, 82, 83, 84, 85, 86, 87, 88, 89, 90, 91, 25, 26, 27, 28, 29, 92, 93, 94, 95, 96, 97, 98, 99, 100, 101, 102, 103, 104, 105, 106, 107, 133, 134, 135, 136, 124, 125, 126, 127, 128, 129, 130, 131, 132, 137, 138] (by decide +kernel) (by decide +kernel)
set_option maxRecDepth 20000 in
theorem gX4_reaches_X3_find_n114 : GoodIn wsX4_reaches (wsX3_find) := ggX4_reaches_X3_find
set_option maxRecDepth 20000 in
theorem ggX4_reaches_X3_order : GoodIn wsX4_reaches wsX3_order := goodIn_r _ [110, 111, 112, 113, 32, 114, 35, 38, 10, 11, 12, 13, 14, 115, 116, 117, 118, 133, 134, 135, 136, 124, 125, 126, 127, 128, 129, 130, 131, 132] (by decide +kernel) (by decide +kernel)
set_option maxRecDepth 20000 in
theorem gX4_reaches_X3_order_n117 : GoodIn wsX4_reaches (wsX3_order) := ggX4_reaches_X3_order
theorem dX4_reaches_0 : decode cX4_reaches 0 = .ok (.aload_n 0, 1) := by decide +kernel
theorem dX4_reaches_1 : decode cX4_reaches 1 = .ok (.iload_n 1, 1) := by decide +kernel
theorem dX4_reaches_2 : decode cX4_reaches 2 = .ok (.invokevirtual 67, 3) := by decide +kernel
theorem dX4_reaches_5 : decode cX4_reaches 5 = .ok (.iload_n 2, 1) := by decide +kernel
theorem dX4_reaches_6 : decode cX4_reaches 6 = .ok (.bipush (-99), 2) := by decide +kernel
theorem dX4_reaches_8 : decode cX4_reaches 8 = .ok (.if_icmp .lt 9, 3) := by decide +kernel
theorem dX4_reaches_11 : decode cX4_reaches 11 = .ok (.iload_n 2, 1) := by decide +kernel
theorem dX4_reaches_12 : decode cX4_reaches 12 = .ok (.bipush 99, 2) := by decide +kernel
theorem dX4_reaches_14 : decode cX4_reaches 14 = .ok (.if_icmp .le 13, 3) := by decide +kernel
theorem dX4_reaches_17 : decode cX4_reaches 17 = .ok (.new 70, 3) := by decide +kernel
theorem dX4_reaches_20 : decode cX4_reaches 20 = .ok (.dup, 1) := by decide +kernel
theorem dX4_reaches_21 : decode cX4_reaches 21 = .ok (.ldc 110, 2) := by decide +kernel
theorem dX4_reaches_23 : decode cX4_reaches 23 = .ok (.invokespecial 74, 3) := by decide +kernel
theorem dX4_reaches_26 : decode cX4_reaches 26 = .ok (.athrow, 1) := by decide +kernel
theorem dX4_reaches_27 : decode cX4_reaches 27 = .ok (.iload_n 3, 1) := by decide +kernel
theorem dX4_reaches_28 : decode cX4_reaches 28 = .ok (.iconst 1, 1) := by decide +kernel
theorem dX4_reaches_29 : decode cX4_reaches 29 = .ok (.if_icmp .lt 9, 3) := by decide +kernel
theorem dX4_reaches_32 : decode cX4_reaches 32 = .ok (.iload_n 3, 1) := by decide +kernel
theorem dX4_reaches_33 : decode cX4_reaches 33 = .ok (.bipush 9, 2) := by decide +kernel
theorem dX4_reaches_35 : decode cX4_reaches 35 = .ok (.if_icmp .le 13, 3) := by decide +kernel
theorem dX4_reaches_38 : decode cX4_reaches 38 = .ok (.new 70, 3) := by decide +kernel
theorem dX4_reaches_41 : decode cX4_reaches 41 = .ok (.dup, 1) := by decide +kernel
theorem dX4_reaches_42 : decode cX4_reaches 42 = .ok (.ldc 112, 2) := by decide +kernel
theorem dX4_reaches_44 : decode cX4_reaches 44 = .ok (.invokespecial 74, 3) := by decide +kernel
theorem dX4_reaches_47 : decode cX4_reaches 47 = .ok (.athrow, 1) := by decide +kernel
theorem dX4_reaches_48 : decode cX4_reaches 48 = .ok (.aload_n 0, 1) := by decide +kernel
theorem dX4_reaches_49 : decode cX4_reaches 49 = .ok (.invokevirtual 97, 3) := by decide +kernel
theorem dX4_reaches_52 : decode cX4_reaches 52 = .ok (.aload_n 0, 1) := by decide +kernel
theorem dX4_reaches_53 : decode cX4_reaches 53 = .ok (.getfield 21, 3) := by decide +kernel
theorem dX4_reaches_56 : decode cX4_reaches 56 = .ok (.iload_n 1, 1) := by decide +kernel
theorem dX4_reaches_57 : decode cX4_reaches 57 = .ok (.invokevirtual 114, 3) := by decide +kernel
theorem dX4_reaches_60 : decode cX4_reaches 60 = .ok (.aload_n 0, 1) := by decide +kernel
theorem dX4_reaches_61 : decode cX4_reaches 61 = .ok (.getfield 21, 3) := by decide +kernel
theorem dX4_reaches_64 : decode cX4_reaches 64 = .ok (.iload_n 1, 1) := by decide +kernel
theorem dX4_reaches_65 : decode cX4_reaches 65 = .ok (.iload_n 2, 1) := by decide +kernel
theorem dX4_reaches_66 : decode cX4_reaches 66 = .ok (.iload_n 3, 1) := by decide +kernel
theorem dX4_reaches_67 : decode cX4_reaches 67 = .ok (.invokevirtual 117, 3) := by decide +kernel
theorem dX4_reaches_70 : decode cX4_reaches 70 = .ok (.ifCond .lt 7, 3) := by decide +kernel
theorem dX4_reaches_73 : decode cX4_reaches 73 = .ok (.iconst 1, 1) := by decide +kernel
theorem dX4_reaches_74 : decode cX4_reaches 74 = .ok (.goto 4, 3) := by decide +kernel
theorem dX4_reaches_77 : decode cX4_reaches 77 = .ok (.iconst 0, 1) := by decide +kernel
theorem dX4_reaches_78 : decode cX4_reaches 78 = .ok (.ireturn, 1) := by decide +kernel
set_option maxRecDepth 20000 in
theorem ggX4_value_X4_checkVertex : GoodIn wsX4_value wsX4_checkVertex := goodIn_ca (goodIn_r _ [6, 7, 8, 9, 10, 11, 12, 13, 14, 119, 120, 121, 122, 123, 124, 125, 126, 127, 128, 129, 130, 131, 132] (by decide +kernel) (by decide +kernel)) (goodIn_sub (fun _ h => List.mem_cons_of_mem _ (List.mem_append_left _ (List.mem_append_right _ h))) (by decide +kernel))
set_option maxRecDepth 20000 in
theorem gX4_value_X4_checkVertex : GoodIn wsX4_value (wsV RX4 67 RX4 yX4_checkVertex wsX4_checkVertex) := goodIn_app (goodIn_of _ (by decide +kernel)) ggX4_value_X4_checkVertex
set_option maxRecDepth 20000 in
theorem ggX4_value_X4_checkComplete : GoodIn wsX4_value wsX4_checkComplete := goodIn_ca (goodIn_r _ [18, 19, 20, 9, 21, 11, 22, 23, 14, 24, 25, 26, 27, 28, 29, 30, 10, 12, 13, 119, 120, 121, 122, 123, 124, 125, 126, 127, 128, 129, 130, 131, 132] (by decide +kernel) (by decide +kernel)) (goodIn_sub (fun _ h => List.mem_cons_of_mem _ (List.mem_append_right _ h)) (by decide +kernel))
set_option maxRecDepth 20000 in
theorem gX4_value_X4_checkComplete : GoodIn wsX4_value (wsV RX4 97 RX4 yX4_checkComplete wsX4_checkComplete) := goodIn_app (goodIn_of _ (by decide +kernel)) ggX4_value_X4_checkComplete
set_option maxRecDepth 20000 in
theorem ggX4_value_X3_find : GoodIn wsX4_value wsX3_find := goodIn_r _ [34, 35, 36, 37, 38, 39, 40, 10, 11, 12, 13, 14, 41, 42, 43, 44, 45, 46, 47, 48, 49, 50, 51, 52, 32, 53, 54, 55, 56, 57, 58, 59, 60, 61, 62, 63, 64, 65, 66, 67, 68, 69, 70, 71, 72, 73, 74, 75, 76, 77, 30, 78, 79, 80, 81, 82, 83, 84, 85, 86, 87, 88, 89, 90, 91, 25, 26, 27, 28, 29, 92, 93, 94, 95, 96, 97, 98, 99, 100, 101, 102, 103, 104, 105, 106, 107, 133, 134, 135, 136, 124, 125, 126, 127, 128, 129, 130, 131, 132, 137, 138] (by decide +kernel) (by decide +kernel)
set_option maxRecDepth 20000 in
theorem gX4_value_X3_find_n114 : GoodIn wsX4_value (wsX3_find) := ggX4_value_X3_find
set_option maxRecDepth 20000 in
theorem ggX4_value_X3_bottomOf : GoodIn wsX4_value wsX3_bottomOf := goodIn_r _ [110, 111, 112, 113, 32, 114, 35, 38, 10, 11, 12, 13, 14, 133, 134, 135, 136, 124, 125, 126, 127, 128, 129, 130, 131, 132] (by decide +kernel) (by decide +kernel)
set_option maxRecDepth 20000 in
theorem gX4_value_X3_bottomOf_n120 : GoodIn wsX4_value (wsX3_bottomOf) := ggX4_value_X3_bottomOf
set_option maxRecDepth 20000 in
theorem ggX4_value_X3_topOf : GoodIn wsX4_value wsX3_topOf := goodIn_r _ [117, 111, 112, 113, 32, 114, 35, 38, 10, 11, 12, 13, 14, 118, 108, 109, 110, 133, 134, 135, 136, 124, 125, 126, 127, 128, 129, 130, 131, 132] (by decide +kernel) (by decide +kernel)
set_option maxRecDepth 20000 in
theorem gX4_value_X3_topOf_n123 : GoodIn wsX4_value (wsX3_topOf) := ggX4_value_X3_topOf
theorem dX4_value_0 : decode cX4_value 0 = .ok (.aload_n 0, 1) := by decide +kernel
theorem dX4_value_1 : decode cX4_value 1 = .ok (.iload_n 1, 1) := by decide +kernel
theorem dX4_value_2 : decode cX4_value 2 = .ok (.invokevirtual 67, 3) := by decide +kernel
theorem dX4_value_5 : decode cX4_value 5 = .ok (.aload_n 0, 1) := by decide +kernel
theorem dX4_value_6 : decode cX4_value 6 = .ok (.invokevirtual 97, 3) := by decide +kernel
theorem dX4_value_9 : decode cX4_value 9 = .ok (.aload_n 0, 1) := by decide +kernel
theorem dX4_value_10 : decode cX4_value 10 = .ok (.getfield 21, 3) := by decide +kernel
theorem dX4_value_13 : decode cX4_value 13 = .ok (.iload_n 1, 1) := by decide +kernel
theorem dX4_value_14 : decode cX4_value 14 = .ok (.invokevirtual 114, 3) := by decide +kernel
theorem dX4_value_17 : decode cX4_value 17 = .ok (.iload_n 2, 1) := by decide +kernel
theorem dX4_value_18 : decode cX4_value 18 = .ok (.ifCond .eq 14, 3) := by decide +kernel
theorem dX4_value_21 : decode cX4_value 21 = .ok (.aload_n 0, 1) := by decide +kernel
theorem dX4_value_22 : decode cX4_value 22 = .ok (.getfield 21, 3) := by decide +kernel
theorem dX4_value_25 : decode cX4_value 25 = .ok (.iload_n 1, 1) := by decide +kernel
theorem dX4_value_26 : decode cX4_value 26 = .ok (.invokevirtual 120, 3) := by decide +kernel
theorem dX4_value_29 : decode cX4_value 29 = .ok (.goto 11, 3) := by decide +kernel
theorem dX4_value_32 : decode cX4_value 32 = .ok (.aload_n 0, 1) := by decide +kernel
theorem dX4_value_33 : decode cX4_value 33 = .ok (.getfield 21, 3) := by decide +kernel
theorem dX4_value_36 : decode cX4_value 36 = .ok (.iload_n 1, 1) := by decide +kernel
theorem dX4_value_37 : decode cX4_value 37 = .ok (.invokevirtual 123, 3) := by decide +kernel
theorem dX4_value_40 : decode cX4_value 40 = .ok (.ireturn, 1) := by decide +kernel
set_option maxRecDepth 20000 in
theorem ggX4_best_X4_checkVertex : GoodIn wsX4_best wsX4_checkVertex := goodIn_ca (goodIn_r _ [6, 7, 8, 9, 10, 11, 12, 13, 14, 167, 168, 169, 170, 171, 172, 173, 174, 175, 176, 177, 178, 179, 180] (by decide +kernel) (by decide +kernel)) (goodIn_sub (fun _ h => List.mem_cons_of_mem _ (List.mem_append_left _ (List.mem_append_right _ h))) (by decide +kernel))
set_option maxRecDepth 20000 in
theorem gX4_best_X4_checkVertex : GoodIn wsX4_best (wsV RX4 67 RX4 yX4_checkVertex wsX4_checkVertex) := goodIn_app (goodIn_of _ (by decide +kernel)) ggX4_best_X4_checkVertex
set_option maxRecDepth 20000 in
theorem ggX4_best_X4_checkComplete : GoodIn wsX4_best wsX4_checkComplete := goodIn_ca (goodIn_r _ [18, 19, 20, 9, 21, 11, 22, 23, 14, 24, 25, 26, 27, 28, 29, 30, 10, 12, 13, 167, 168, 169, 170, 171, 172, 173, 174, 175, 176, 177, 178, 179, 180] (by decide +kernel) (by decide +kernel)) (goodIn_sub (fun _ h => List.mem_cons_of_mem _ (List.mem_append_right _ h)) (by decide +kernel))
set_option maxRecDepth 20000 in
theorem gX4_best_X4_checkComplete : GoodIn wsX4_best (wsV RX4 97 RX4 yX4_checkComplete wsX4_checkComplete) := goodIn_app (goodIn_of _ (by decide +kernel)) ggX4_best_X4_checkComplete
set_option maxRecDepth 20000 in
theorem ggX4_best_X3_findAll : GoodIn wsX4_best wsX3_findAll := goodIn_r _ [34, 35, 36, 37, 32, 38, 39, 40, 41, 42, 43, 44, 10, 11, 12, 13, 14, 45, 46, 47, 48, 49, 50, 51, 52, 53, 54, 55, 56, 57, 58, 59, 60, 61, 62, 63, 64, 65, 66, 67, 68, 69, 70, 71, 72, 73, 74, 75, 76, 77, 78, 79, 80, 81, 30, 82, 83, 84, 85, 86, 87, 88, 89, 90, 91, 92, 93, 94, 95, 25, 26, 27, 28, 29, 96, 97, 98, 99, 100, 101, 102, 103, 104, 105, 106, 107, 108, 109, 110, 111, 181, 182, 183, 184, 172, 173, 174, 175, 176, 177, 178, 179, 180, 185, 186] (by decide +kernel) (by decide +kernel)
set_option maxRecDepth 20000 in
theorem gX4_best_X3_findAll_n100 : GoodIn wsX4_best (wsX3_findAll) := ggX4_best_X3_findAll
set_option maxRecDepth 20000 in
theorem ggX4_best_X4_bestEdge : GoodIn wsX4_best wsX4_bestEdge := goodIn_r _ [115, 116, 9, 1, 78, 11, 79, 80, 81, 30, 10, 12, 13, 14, 117, 32, 118, 119, 120, 121, 122, 123, 39, 42, 124, 125, 126, 127, 128, 129, 130, 131, 132, 133, 134, 135, 104, 105, 106, 107, 136, 137, 138, 139, 140, 141, 142, 143, 144, 145, 146, 147, 148, 149, 150, 25, 26, 27, 28, 29, 96, 97, 98, 99, 151, 152, 153, 154, 155, 93, 94, 95, 100, 101, 102, 103, 156, 157, 158, 159, 160, 161, 162, 163, 164, 165, 166, 167, 168, 169, 170, 171, 172, 173, 174, 175, 176, 177, 178, 179, 180, 181, 182, 183, 184, 187, 188, 189, 190] (by decide +kernel) (by decide +kernel)
set_option maxRecDepth 20000 in
theorem gX4_best_X4_bestEdge : GoodIn wsX4_best (wsV RX4 126 RX4 yX4_bestEdge wsX4_bestEdge) := goodIn_app (goodIn_of _ (by decide +kernel)) ggX4_best_X4_bestEdge
theorem dX4_best_0 : decode cX4_best 0 = .ok (.aload_n 0, 1) := by decide +kernel
theorem dX4_best_1 : decode cX4_best 1 = .ok (.iload_n 1, 1) := by decide +kernel
theorem dX4_best_2 : decode cX4_best 2 = .ok (.invokevirtual 67, 3) := by decide +kernel
theorem dX4_best_5 : decode cX4_best 5 = .ok (.aload_n 0, 1) := by decide +kernel
theorem dX4_best_6 : decode cX4_best 6 = .ok (.invokevirtual 97, 3) := by decide +kernel
theorem dX4_best_9 : decode cX4_best 9 = .ok (.aload_n 0, 1) := by decide +kernel
theorem dX4_best_10 : decode cX4_best 10 = .ok (.getfield 21, 3) := by decide +kernel
theorem dX4_best_13 : decode cX4_best 13 = .ok (.invokevirtual 100, 3) := by decide +kernel
theorem dX4_best_16 : decode cX4_best 16 = .ok (.aload_n 0, 1) := by decide +kernel
theorem dX4_best_17 : decode cX4_best 17 = .ok (.iload_n 1, 1) := by decide +kernel
theorem dX4_best_18 : decode cX4_best 18 = .ok (.invokevirtual 126, 3) := by decide +kernel
theorem dX4_best_21 : decode cX4_best 21 = .ok (.ireturn, 1) := by decide +kernel
set_option maxRecDepth 20000 in
theorem ggX4_settle_X4_checkPlayer : GoodIn wsX4_settle wsX4_checkPlayer := goodIn_ca (goodIn_r _ [6, 7, 8] (by decide +kernel) (by decide +kernel)) (goodIn_sub (fun _ h => List.mem_cons_of_mem _ (List.mem_append_left _ (List.mem_append_right _ h))) (by decide +kernel))
set_option maxRecDepth 20000 in
theorem gX4_settle_X4_checkPlayer : GoodIn wsX4_settle (wsV RX4 45 RX4 yX4_checkPlayer wsX4_checkPlayer) := goodIn_app (goodIn_of _ (by decide +kernel)) ggX4_settle_X4_checkPlayer
set_option maxRecDepth 20000 in
theorem ggX4_settle_X4_checkComplete : GoodIn wsX4_settle wsX4_checkComplete := goodIn_ca (goodIn_r _ [12, 13, 14, 15, 16, 17, 18, 19, 20, 21, 22, 23, 24, 25, 26, 27, 28, 29, 30, 185, 186, 187, 188, 189, 190, 191, 192, 193, 194, 195, 196, 197, 198] (by decide +kernel) (by decide +kernel)) (goodIn_sub (fun _ h => List.mem_cons_of_mem _ (List.mem_append_right _ h)) (by decide +kernel))
set_option maxRecDepth 20000 in
theorem gX4_settle_X4_checkComplete : GoodIn wsX4_settle (wsV RX4 97 RX4 yX4_checkComplete wsX4_checkComplete) := goodIn_app (goodIn_of _ (by decide +kernel)) ggX4_settle_X4_checkComplete
set_option maxRecDepth 20000 in
theorem ggX4_settle_X3_findAll : GoodIn wsX4_settle wsX3_findAll := goodIn_r _ [34, 35, 36, 37, 32, 38, 39, 40, 41, 42, 43, 44, 28, 17, 29, 30, 20, 45, 46, 47, 48, 49, 50, 51, 52, 53, 54, 55, 56, 57, 58, 59, 60, 61, 62, 63, 64, 65, 66, 67, 68, 69, 70, 71, 72, 73, 74, 75, 76, 77, 78, 79, 80, 81, 27, 82, 83, 84, 85, 86, 87, 88, 89, 90, 91, 92, 93, 94, 95, 22, 23, 24, 25, 26, 96, 97, 98, 99, 100, 101, 102, 103, 104, 105, 106, 107, 108, 109, 110, 111, 199, 200, 201, 202, 190, 191, 192, 193, 194, 195, 196, 197, 198, 203, 204] (by decide +kernel) (by decide +kernel)
set_option maxRecDepth 20000 in
theorem gX4_settle_X3_findAll_n100 : GoodIn wsX4_settle (wsX3_findAll) := ggX4_settle_X3_findAll
set_option maxRecDepth 20000 in
theorem ggX4_settle_X4_chooseFor : GoodIn wsX4_settle wsX4_chooseFor := goodIn_r _ [115, 15, 116, 28, 17, 29, 30, 20, 78, 79, 80, 81, 27, 117, 118, 119, 25, 120, 121, 122, 5, 123, 124, 1, 125, 32, 126, 127, 128, 129, 130, 131, 39, 42, 132, 133, 134, 135, 136, 137, 138, 139, 140, 141, 142, 143, 104, 105, 106, 107, 144, 145, 146, 147, 148, 149, 150, 151, 152, 153, 154, 155, 156, 157, 158, 22, 23, 24, 26, 96, 97, 98, 99, 159, 160, 161, 162, 163, 93, 94, 95, 100, 101, 102, 103, 164, 165, 166, 167, 168, 169, 170, 171, 172, 173, 174, 185, 186, 187, 188, 189, 190, 191, 192, 193, 194, 195, 196, 197, 198, 199, 200, 201, 202, 205, 206, 207, 208] (by decide +kernel) (by decide +kernel)
set_option maxRecDepth 20000 in
theorem gX4_settle_X4_chooseFor : GoodIn wsX4_settle (wsV RX4 129 RX4 yX4_chooseFor wsX4_chooseFor) := goodIn_app (goodIn_of _ (by decide +kernel)) ggX4_settle_X4_chooseFor
set_option maxRecDepth 20000 in
theorem ggX4_settle_X3_forget : GoodIn wsX4_settle wsX3_forget := goodIn_r _ [177, 40, 199, 200, 201, 202] (by decide +kernel) (by decide +kernel)
set_option maxRecDepth 20000 in
theorem gX4_settle_X3_forget_n60 : GoodIn wsX4_settle (wsX3_forget) := ggX4_settle_X3_forget
set_option maxRecDepth 20000 in
theorem ggX4_settle_X4_fixChosen : GoodIn wsX4_settle wsX4_fixChosen := goodIn_r _ [181, 116, 15, 182, 17, 183, 184, 25, 27, 28, 29, 30, 20, 185, 186, 187, 188, 189, 190, 191, 192, 193, 194, 195, 196, 197, 198] (by decide +kernel) (by decide +kernel)
set_option maxRecDepth 20000 in
theorem gX4_settle_X4_fixChosen : GoodIn wsX4_settle (wsV RX4 132 RX4 yX4_fixChosen wsX4_fixChosen) := goodIn_app (goodIn_of _ (by decide +kernel)) ggX4_settle_X4_fixChosen
theorem dX4_settle_0 : decode cX4_settle 0 = .ok (.aload_n 0, 1) := by decide +kernel
theorem dX4_settle_1 : decode cX4_settle 1 = .ok (.iload_n 1, 1) := by decide +kernel
theorem dX4_settle_2 : decode cX4_settle 2 = .ok (.invokevirtual 45, 3) := by decide +kernel
theorem dX4_settle_5 : decode cX4_settle 5 = .ok (.aload_n 0, 1) := by decide +kernel
theorem dX4_settle_6 : decode cX4_settle 6 = .ok (.invokevirtual 97, 3) := by decide +kernel
theorem dX4_settle_9 : decode cX4_settle 9 = .ok (.aload_n 0, 1) := by decide +kernel
theorem dX4_settle_10 : decode cX4_settle 10 = .ok (.getfield 21, 3) := by decide +kernel
theorem dX4_settle_13 : decode cX4_settle 13 = .ok (.invokevirtual 100, 3) := by decide +kernel
theorem dX4_settle_16 : decode cX4_settle 16 = .ok (.aload_n 0, 1) := by decide +kernel
theorem dX4_settle_17 : decode cX4_settle 17 = .ok (.iload_n 1, 1) := by decide +kernel
theorem dX4_settle_18 : decode cX4_settle 18 = .ok (.invokevirtual 129, 3) := by decide +kernel
theorem dX4_settle_21 : decode cX4_settle 21 = .ok (.aload_n 0, 1) := by decide +kernel
theorem dX4_settle_22 : decode cX4_settle 22 = .ok (.getfield 21, 3) := by decide +kernel
theorem dX4_settle_25 : decode cX4_settle 25 = .ok (.invokevirtual 60, 3) := by decide +kernel
theorem dX4_settle_28 : decode cX4_settle 28 = .ok (.aload_n 0, 1) := by decide +kernel
theorem dX4_settle_29 : decode cX4_settle 29 = .ok (.invokevirtual 132, 3) := by decide +kernel
theorem dX4_settle_32 : decode cX4_settle 32 = .ok (.ireturn, 1) := by decide +kernel
set_option maxRecDepth 20000 in
theorem ggX4_walk_X4_checkVertex : GoodIn wsX4_walk wsX4_checkVertex := goodIn_ca (goodIn_r _ [8, 1, 2, 9, 10, 11, 12, 13, 14, 172, 173, 174, 175, 176, 177, 178, 179, 180, 181, 182, 183, 184, 185] (by decide +kernel) (by decide +kernel)) (goodIn_sub (fun _ h => List.mem_cons_of_mem _ (List.mem_append_left _ (List.mem_append_right _ h))) (by decide +kernel))
set_option maxRecDepth 20000 in
theorem gX4_walk_X4_checkVertex : GoodIn wsX4_walk (wsV RX4 67 RX4 yX4_checkVertex wsX4_checkVertex) := goodIn_app (goodIn_of _ (by decide +kernel)) ggX4_walk_X4_checkVertex
set_option maxRecDepth 20000 in
theorem ggX4_walk_X4_checkComplete : GoodIn wsX4_walk wsX4_checkComplete := goodIn_ca (goodIn_r _ [18, 19, 20, 9, 21, 11, 22, 23, 14, 24, 25, 26, 27, 28, 29, 30, 10, 12, 13, 172, 173, 174, 175, 176, 177, 178, 179, 180, 181, 182, 183, 184, 185] (by decide +kernel) (by decide +kernel)) (goodIn_sub (fun _ h => List.mem_cons_of_mem _ (List.mem_append_right _ h)) (by decide +kernel))
set_option maxRecDepth 20000 in
theorem gX4_walk_X4_checkComplete : GoodIn wsX4_walk (wsV RX4 97 RX4 yX4_checkComplete wsX4_checkComplete) := goodIn_app (goodIn_of _ (by decide +kernel)) ggX4_walk_X4_checkComplete
set_option maxRecDepth 20000 in
theorem ggX4_walk_X3_findAll : GoodIn wsX4_walk wsX3_findAll := goodIn_r _ [34, 35, 36, 37, 32, 38, 39, 40, 41, 42, 43, 44, 10, 11, 12, 13, 14, 45, 46, 47, 48, 49, 50, 51, 52, 53, 54, 55, 56, 57, 58, 59, 60, 61, 62, 63, 64, 65, 66, 67, 68, 69, 70, 71, 72, 73, 74, 75, 76, 77, 78, 79, 80, 81, 30, 82, 83, 84, 85, 86, 87, 88, 89, 90, 91, 92, 93, 94, 95, 25, 26, 27, 28, 29, 96, 97, 98, 99, 100, 101, 102, 103, 104, 105, 106, 107, 108, 109, 110, 111, 186, 187, 188, 189, 177, 178, 179, 180, 181, 182, 183, 184, 185, 190, 191] (by decide +kernel) (by decide +kernel)
set_option maxRecDepth 20000 in
theorem gX4_walk_X3_findAll_n100 : GoodIn wsX4_walk (wsX3_findAll) := ggX4_walk_X3_findAll
set_option maxRecDepth 20000 in
theorem ggX4_walk_X4_tellWalk : GoodIn wsX4_walk wsX4_tellWalk := goodIn_r _ [115, 116, 9, 45, 46, 47, 48, 49, 50, 51, 52, 53, 58, 59, 60, 61, 62, 63, 64, 75, 76, 77, 71, 117, 118, 119, 7, 120, 121, 3, 78, 11, 79, 80, 81, 30, 10, 12, 13, 14, 122, 32, 123, 124, 125, 126, 127, 128, 39, 42, 129, 130, 131, 132, 133, 134, 135, 136, 137, 138, 139, 140, 104, 105, 106, 107, 141, 142, 143, 144, 145, 146, 147, 148, 149, 150, 151, 152, 153, 154, 155, 25, 26, 27, 28, 29, 96, 97, 98, 99, 156, 157, 158, 159, 160, 93, 94, 95, 100, 101, 102, 103, 161, 162, 163, 164, 165, 166, 167, 168, 169, 170, 171, 65, 66, 67, 68, 69, 70, 172, 173, 174, 175, 176, 190, 191, 177, 178, 179, 180, 181, 182, 183, 184, 185, 186, 187, 188, 189, 192, 193, 194, 195] (by decide +kernel) (by decide +kernel)
set_option maxRecDepth 20000 in
theorem gX4_walk_X4_tellWalk : GoodIn wsX4_walk (wsV RX4 138 RX4 yX4_tellWalk wsX4_tellWalk) := goodIn_app (goodIn_of _ (by decide +kernel)) ggX4_walk_X4_tellWalk
theorem dX4_walk_0 : decode cX4_walk 0 = .ok (.aload_n 0, 1) := by decide +kernel
theorem dX4_walk_1 : decode cX4_walk 1 = .ok (.iload_n 1, 1) := by decide +kernel
theorem dX4_walk_2 : decode cX4_walk 2 = .ok (.invokevirtual 67, 3) := by decide +kernel
theorem dX4_walk_5 : decode cX4_walk 5 = .ok (.iload_n 2, 1) := by decide +kernel
theorem dX4_walk_6 : decode cX4_walk 6 = .ok (.ifCond .lt 8, 3) := by decide +kernel
theorem dX4_walk_9 : decode cX4_walk 9 = .ok (.iload_n 2, 1) := by decide +kernel
theorem dX4_walk_10 : decode cX4_walk 10 = .ok (.iconst 3, 1) := by decide +kernel
theorem dX4_walk_11 : decode cX4_walk 11 = .ok (.if_icmp .le 13, 3) := by decide +kernel
theorem dX4_walk_14 : decode cX4_walk 14 = .ok (.new 70, 3) := by decide +kernel
theorem dX4_walk_17 : decode cX4_walk 17 = .ok (.dup, 1) := by decide +kernel
theorem dX4_walk_18 : decode cX4_walk 18 = .ok (.ldc 136, 2) := by decide +kernel
theorem dX4_walk_20 : decode cX4_walk 20 = .ok (.invokespecial 74, 3) := by decide +kernel
theorem dX4_walk_23 : decode cX4_walk 23 = .ok (.athrow, 1) := by decide +kernel
theorem dX4_walk_24 : decode cX4_walk 24 = .ok (.aload_n 0, 1) := by decide +kernel
theorem dX4_walk_25 : decode cX4_walk 25 = .ok (.invokevirtual 97, 3) := by decide +kernel
theorem dX4_walk_28 : decode cX4_walk 28 = .ok (.aload_n 0, 1) := by decide +kernel
theorem dX4_walk_29 : decode cX4_walk 29 = .ok (.getfield 21, 3) := by decide +kernel
theorem dX4_walk_32 : decode cX4_walk 32 = .ok (.invokevirtual 100, 3) := by decide +kernel
theorem dX4_walk_35 : decode cX4_walk 35 = .ok (.aload_n 0, 1) := by decide +kernel
theorem dX4_walk_36 : decode cX4_walk 36 = .ok (.iload_n 1, 1) := by decide +kernel
theorem dX4_walk_37 : decode cX4_walk 37 = .ok (.iload_n 2, 1) := by decide +kernel
theorem dX4_walk_38 : decode cX4_walk 38 = .ok (.invokevirtual 138, 3) := by decide +kernel
theorem dX4_walk_41 : decode cX4_walk 41 = .ok (.ireturn, 1) := by decide +kernel
theorem dX4_checkPlayer_0 : decode cX4_checkPlayer 0 = .ok (.iload_n 1, 1) := by decide +kernel
theorem dX4_checkPlayer_1 : decode cX4_checkPlayer 1 = .ok (.ifCond .eq 18, 3) := by decide +kernel
theorem dX4_checkPlayer_4 : decode cX4_checkPlayer 4 = .ok (.iload_n 1, 1) := by decide +kernel
theorem dX4_checkPlayer_5 : decode cX4_checkPlayer 5 = .ok (.iconst 1, 1) := by decide +kernel
theorem dX4_checkPlayer_6 : decode cX4_checkPlayer 6 = .ok (.if_icmp .eq 13, 3) := by decide +kernel
theorem dX4_checkPlayer_9 : decode cX4_checkPlayer 9 = .ok (.new 70, 3) := by decide +kernel
theorem dX4_checkPlayer_12 : decode cX4_checkPlayer 12 = .ok (.dup, 1) := by decide +kernel
theorem dX4_checkPlayer_13 : decode cX4_checkPlayer 13 = .ok (.ldc 142, 2) := by decide +kernel
theorem dX4_checkPlayer_15 : decode cX4_checkPlayer 15 = .ok (.invokespecial 74, 3) := by decide +kernel
theorem dX4_checkPlayer_18 : decode cX4_checkPlayer 18 = .ok (.athrow, 1) := by decide +kernel
theorem dX4_checkPlayer_19 : decode cX4_checkPlayer 19 = .ok (.return_, 1) := by decide +kernel
set_option maxRecDepth 20000 in
theorem ggX4_checkVertex_X1_hasVertex : GoodIn wsX4_checkVertex wsX1_hasVertex := goodIn_r _ [7, 8, 14, 15, 16, 17, 18, 19, 20, 21, 22] (by decide +kernel) (by decide +kernel)
set_option maxRecDepth 20000 in
theorem gX4_checkVertex_X1_hasVertex_n144 : GoodIn wsX4_checkVertex (wsX1_hasVertex) := ggX4_checkVertex_X1_hasVertex
theorem dX4_checkVertex_0 : decode cX4_checkVertex 0 = .ok (.aload_n 0, 1) := by decide +kernel
theorem dX4_checkVertex_1 : decode cX4_checkVertex 1 = .ok (.getfield 10, 3) := by decide +kernel
theorem dX4_checkVertex_4 : decode cX4_checkVertex 4 = .ok (.iload_n 1, 1) := by decide +kernel
theorem dX4_checkVertex_5 : decode cX4_checkVertex 5 = .ok (.invokevirtual 144, 3) := by decide +kernel
theorem dX4_checkVertex_8 : decode cX4_checkVertex 8 = .ok (.ifCond .ne 13, 3) := by decide +kernel
theorem dX4_checkVertex_11 : decode cX4_checkVertex 11 = .ok (.new 70, 3) := by decide +kernel
theorem dX4_checkVertex_14 : decode cX4_checkVertex 14 = .ok (.dup, 1) := by decide +kernel
theorem dX4_checkVertex_15 : decode cX4_checkVertex 15 = .ok (.ldc 148, 2) := by decide +kernel
theorem dX4_checkVertex_17 : decode cX4_checkVertex 17 = .ok (.invokespecial 74, 3) := by decide +kernel
theorem dX4_checkVertex_20 : decode cX4_checkVertex 20 = .ok (.athrow, 1) := by decide +kernel
theorem dX4_checkVertex_21 : decode cX4_checkVertex 21 = .ok (.return_, 1) := by decide +kernel
set_option maxRecDepth 20000 in
theorem ggX4_checkComplete_X1_isComplete : GoodIn wsX4_checkComplete wsX1_isComplete := goodIn_r _ [7, 8, 9, 10, 11, 5, 12, 13, 14, 15, 16, 17, 18, 24, 25, 26, 27, 28, 29, 30, 31, 32] (by decide +kernel) (by decide +kernel)
set_option maxRecDepth 20000 in
theorem gX4_checkComplete_X1_isComplete_n150 : GoodIn wsX4_checkComplete (wsX1_isComplete) := ggX4_checkComplete_X1_isComplete
theorem dX4_checkComplete_0 : decode cX4_checkComplete 0 = .ok (.aload_n 0, 1) := by decide +kernel
theorem dX4_checkComplete_1 : decode cX4_checkComplete 1 = .ok (.getfield 10, 3) := by decide +kernel
theorem dX4_checkComplete_4 : decode cX4_checkComplete 4 = .ok (.invokevirtual 150, 3) := by decide +kernel
theorem dX4_checkComplete_7 : decode cX4_checkComplete 7 = .ok (.ifCond .ne 13, 3) := by decide +kernel
theorem dX4_checkComplete_10 : decode cX4_checkComplete 10 = .ok (.new 53, 3) := by decide +kernel
theorem dX4_checkComplete_13 : decode cX4_checkComplete 13 = .ok (.dup, 1) := by decide +kernel
theorem dX4_checkComplete_14 : decode cX4_checkComplete 14 = .ok (.ldc 154, 2) := by decide +kernel
theorem dX4_checkComplete_16 : decode cX4_checkComplete 16 = .ok (.invokespecial 57, 3) := by decide +kernel
theorem dX4_checkComplete_19 : decode cX4_checkComplete 19 = .ok (.athrow, 1) := by decide +kernel
theorem dX4_checkComplete_20 : decode cX4_checkComplete 20 = .ok (.return_, 1) := by decide +kernel
set_option maxRecDepth 20000 in
theorem ggX4_bestEdge_X1_ownerOf : GoodIn wsX4_bestEdge wsX1_ownerOf := goodIn_r _ [7, 8, 9, 10, 11, 5, 12, 13, 92, 93, 94, 95, 96, 97, 98, 99, 100] (by decide +kernel) (by decide +kernel)
set_option maxRecDepth 20000 in
theorem gX4_bestEdge_X1_ownerOf_n156 : GoodIn wsX4_bestEdge (wsX1_ownerOf) := ggX4_bestEdge_X1_ownerOf
set_option maxRecDepth 20000 in
theorem ggX4_bestEdge_X3_topOf : GoodIn wsX4_bestEdge wsX3_topOf := goodIn_r _ [17, 18, 19, 20, 15, 21, 22, 23, 10, 5, 11, 12, 13, 24, 25, 26, 27, 101, 102, 103, 104, 92, 93, 94, 95, 96, 97, 98, 99, 100] (by decide +kernel) (by decide +kernel)
set_option maxRecDepth 20000 in
theorem gX4_bestEdge_X3_topOf_n123 : GoodIn wsX4_bestEdge (wsX3_topOf) := ggX4_bestEdge_X3_topOf
set_option maxRecDepth 20000 in
theorem ggX4_bestEdge_X3_bottomOf : GoodIn wsX4_bestEdge wsX3_bottomOf := goodIn_r _ [27, 18, 19, 20, 15, 21, 22, 23, 10, 5, 11, 12, 13, 101, 102, 103, 104, 92, 93, 94, 95, 96, 97, 98, 99, 100] (by decide +kernel) (by decide +kernel)
set_option maxRecDepth 20000 in
theorem gX4_bestEdge_X3_bottomOf_n120 : GoodIn wsX4_bestEdge (wsX3_bottomOf) := ggX4_bestEdge_X3_bottomOf
set_option maxRecDepth 20000 in
theorem ggX4_bestEdge_X0_solve : GoodIn wsX4_bestEdge wsX0_solve := goodIn_r _ [31, 32, 33, 34, 35, 36, 5, 37, 38, 39, 40, 15, 41, 42, 18, 19, 20, 21, 22, 23, 10, 11, 12, 13, 43, 44, 45, 46, 47, 48, 49, 29, 50, 4, 6, 7, 8, 9, 51, 52, 53, 54, 55, 56, 57, 58, 59, 60, 61, 62, 63, 64, 65, 66, 67, 68, 69, 70, 71, 72, 73, 74, 75, 76, 77, 78, 79, 80, 81, 82, 83, 105, 106, 107, 108, 92, 93, 94, 95, 96, 97, 98, 99, 100, 101, 102, 103, 104] (by decide +kernel) (by decide +kernel)
set_option maxRecDepth 20000 in
theorem gX4_bestEdge_X0_solve_n103 : GoodIn wsX4_bestEdge (wsX0_solve) := ggX4_bestEdge_X0_solve
set_option maxRecDepth 20000 in
theorem ggX4_bestEdge_X1_waysFrom : GoodIn wsX4_bestEdge wsX1_waysFrom := goodIn_r _ [57, 58, 59, 9, 10, 11, 5, 12, 13, 92, 93, 94, 95, 96, 97, 98, 99, 100] (by decide +kernel) (by decide +kernel)
set_option maxRecDepth 20000 in
theorem gX4_bestEdge_X1_waysFrom_n159 : GoodIn wsX4_bestEdge (wsX1_waysFrom) := ggX4_bestEdge_X1_waysFrom
set_option maxRecDepth 20000 in
theorem ggX4_bestEdge_X1_wayFrom : GoodIn wsX4_bestEdge wsX1_wayFrom := goodIn_r _ [62, 59, 58, 63, 9, 10, 11, 5, 12, 13, 92, 93, 94, 95, 96, 97, 98, 99, 100] (by decide +kernel) (by decide +kernel)
set_option maxRecDepth 20000 in
theorem gX4_bestEdge_X1_wayFrom_n162 : GoodIn wsX4_bestEdge (wsX1_wayFrom) := ggX4_bestEdge_X1_wayFrom
set_option maxRecDepth 20000 in
theorem ggX4_bestEdge_X0_allows : GoodIn wsX4_bestEdge wsX0_allows := goodIn_r _ [86, 32, 72, 5, 73, 74, 75, 76, 77, 78, 29, 79, 34, 80, 81, 82, 83, 33, 105, 106, 107, 108, 92, 93, 94, 95, 96, 97, 98, 99, 100] (by decide +kernel) (by decide +kernel)
set_option maxRecDepth 20000 in
theorem gX4_bestEdge_X0_allows_n165 : GoodIn wsX4_bestEdge (wsX0_allows) := ggX4_bestEdge_X0_allows
theorem dX4_bestEdge_0 : decode cX4_bestEdge 0 = .ok (.aload_n 0, 1) := by decide +kernel
theorem dX4_bestEdge_1 : decode cX4_bestEdge 1 = .ok (.getfield 30, 3) := by decide +kernel
theorem dX4_bestEdge_4 : decode cX4_bestEdge 4 = .ok (.aload_n 0, 1) := by decide +kernel
theorem dX4_bestEdge_5 : decode cX4_bestEdge 5 = .ok (.getfield 10, 3) := by decide +kernel
theorem dX4_bestEdge_8 : decode cX4_bestEdge 8 = .ok (.iload_n 1, 1) := by decide +kernel
theorem dX4_bestEdge_9 : decode cX4_bestEdge 9 = .ok (.invokevirtual 156, 3) := by decide +kernel
theorem dX4_bestEdge_12 : decode cX4_bestEdge 12 = .ok (.aload_n 0, 1) := by decide +kernel
theorem dX4_bestEdge_13 : decode cX4_bestEdge 13 = .ok (.getfield 21, 3) := by decide +kernel
theorem dX4_bestEdge_16 : decode cX4_bestEdge 16 = .ok (.iload_n 1, 1) := by decide +kernel
theorem dX4_bestEdge_17 : decode cX4_bestEdge 17 = .ok (.invokevirtual 123, 3) := by decide +kernel
theorem dX4_bestEdge_20 : decode cX4_bestEdge 20 = .ok (.aload_n 0, 1) := by decide +kernel
theorem dX4_bestEdge_21 : decode cX4_bestEdge 21 = .ok (.getfield 21, 3) := by decide +kernel
theorem dX4_bestEdge_24 : decode cX4_bestEdge 24 = .ok (.iload_n 1, 1) := by decide +kernel
theorem dX4_bestEdge_25 : decode cX4_bestEdge 25 = .ok (.invokevirtual 120, 3) := by decide +kernel
theorem dX4_bestEdge_28 : decode cX4_bestEdge 28 = .ok (.invokevirtual 103, 3) := by decide +kernel
theorem dX4_bestEdge_31 : decode cX4_bestEdge 31 = .ok (.aload_n 0, 1) := by decide +kernel
theorem dX4_bestEdge_32 : decode cX4_bestEdge 32 = .ok (.getfield 10, 3) := by decide +kernel
theorem dX4_bestEdge_35 : decode cX4_bestEdge 35 = .ok (.iload_n 1, 1) := by decide +kernel
theorem dX4_bestEdge_36 : decode cX4_bestEdge 36 = .ok (.invokevirtual 159, 3) := by decide +kernel
theorem dX4_bestEdge_39 : decode cX4_bestEdge 39 = .ok (.istore_n 2, 1) := by decide +kernel
theorem dX4_bestEdge_40 : decode cX4_bestEdge 40 = .ok (.iconst 0, 1) := by decide +kernel
theorem dX4_bestEdge_41 : decode cX4_bestEdge 41 = .ok (.istore_n 3, 1) := by decide +kernel
theorem dX4_bestEdge_42 : decode cX4_bestEdge 42 = .ok (.iload_n 3, 1) := by decide +kernel
theorem dX4_bestEdge_43 : decode cX4_bestEdge 43 = .ok (.iload_n 2, 1) := by decide +kernel
theorem dX4_bestEdge_44 : decode cX4_bestEdge 44 = .ok (.if_icmp .ge 36, 3) := by decide +kernel
theorem dX4_bestEdge_47 : decode cX4_bestEdge 47 = .ok (.aload_n 0, 1) := by decide +kernel
theorem dX4_bestEdge_48 : decode cX4_bestEdge 48 = .ok (.getfield 10, 3) := by decide +kernel
theorem dX4_bestEdge_51 : decode cX4_bestEdge 51 = .ok (.iload_n 1, 1) := by decide +kernel
theorem dX4_bestEdge_52 : decode cX4_bestEdge 52 = .ok (.iload_n 3, 1) := by decide +kernel
theorem dX4_bestEdge_53 : decode cX4_bestEdge 53 = .ok (.invokevirtual 162, 3) := by decide +kernel
theorem dX4_bestEdge_56 : decode cX4_bestEdge 56 = .ok (.istore 4, 2) := by decide +kernel
theorem dX4_bestEdge_58 : decode cX4_bestEdge 58 = .ok (.aload_n 0, 1) := by decide +kernel
theorem dX4_bestEdge_59 : decode cX4_bestEdge 59 = .ok (.getfield 30, 3) := by decide +kernel
theorem dX4_bestEdge_62 : decode cX4_bestEdge 62 = .ok (.iload_n 1, 1) := by decide +kernel
theorem dX4_bestEdge_63 : decode cX4_bestEdge 63 = .ok (.iload 4, 2) := by decide +kernel
theorem dX4_bestEdge_65 : decode cX4_bestEdge 65 = .ok (.invokevirtual 165, 3) := by decide +kernel
theorem dX4_bestEdge_68 : decode cX4_bestEdge 68 = .ok (.ifCond .eq 6, 3) := by decide +kernel
theorem dX4_bestEdge_71 : decode cX4_bestEdge 71 = .ok (.iload 4, 2) := by decide +kernel
theorem dX4_bestEdge_73 : decode cX4_bestEdge 73 = .ok (.ireturn, 1) := by decide +kernel
theorem dX4_bestEdge_74 : decode cX4_bestEdge 74 = .ok (.iinc 3 1, 3) := by decide +kernel
theorem dX4_bestEdge_77 : decode cX4_bestEdge 77 = .ok (.goto (-35), 3) := by decide +kernel
theorem dX4_bestEdge_80 : decode cX4_bestEdge 80 = .ok (.iconst (-1), 1) := by decide +kernel
theorem dX4_bestEdge_81 : decode cX4_bestEdge 81 = .ok (.ireturn, 1) := by decide +kernel
set_option maxRecDepth 20000 in
theorem ggX4_chooseFor_X1_hasVertex : GoodIn wsX4_chooseFor wsX1_hasVertex := goodIn_r _ [6, 7, 101, 102, 103, 104, 105, 106, 107, 108, 109] (by decide +kernel) (by decide +kernel)
set_option maxRecDepth 20000 in
theorem gX4_chooseFor_X1_hasVertex_n144 : GoodIn wsX4_chooseFor (wsX1_hasVertex) := ggX4_chooseFor_X1_hasVertex
set_option maxRecDepth 20000 in
theorem ggX4_chooseFor_X1_ownerOf : GoodIn wsX4_chooseFor wsX1_ownerOf := goodIn_r _ [10, 11, 12, 3, 5, 4, 6, 7, 101, 102, 103, 104, 105, 106, 107, 108, 109] (by decide +kernel) (by decide +kernel)
set_option maxRecDepth 20000 in
theorem gX4_chooseFor_X1_ownerOf_n156 : GoodIn wsX4_chooseFor (wsX1_ownerOf) := ggX4_chooseFor_X1_ownerOf
set_option maxRecDepth 20000 in
theorem ggX4_chooseFor_X1_fixedOf : GoodIn wsX4_chooseFor wsX1_fixedOf := goodIn_r _ [15, 16, 12, 3, 5, 4, 6, 7, 101, 102, 103, 104, 105, 106, 107, 108, 109] (by decide +kernel) (by decide +kernel)
set_option maxRecDepth 20000 in
theorem gX4_chooseFor_X1_fixedOf_n94 : GoodIn wsX4_chooseFor (wsX1_fixedOf) := ggX4_chooseFor_X1_fixedOf
set_option maxRecDepth 20000 in
theorem ggX4_chooseFor_X4_bestEdge : GoodIn wsX4_chooseFor wsX4_bestEdge := goodIn_r _ [21, 22, 1, 23, 8, 4, 9, 10, 11, 12, 3, 5, 6, 7, 24, 25, 26, 27, 28, 29, 30, 31, 32, 33, 34, 35, 36, 37, 38, 39, 40, 41, 42, 43, 44, 45, 46, 47, 48, 49, 50, 51, 52, 53, 54, 55, 56, 57, 58, 59, 60, 61, 62, 63, 64, 65, 66, 67, 16, 68, 69, 70, 71, 72, 73, 74, 75, 76, 77, 78, 79, 80, 81, 82, 83, 84, 85, 86, 87, 88, 89, 90, 91, 92, 93, 94, 95, 96, 97, 98, 99, 100, 101, 102, 103, 104, 105, 106, 107, 108, 109, 110, 111, 112, 113, 114, 115, 116, 117] (by decide +kernel) (by decide +kernel)
set_option maxRecDepth 20000 in
theorem gX4_chooseFor_X4_bestEdge : GoodIn wsX4_chooseFor (wsV RX4 126 RX4 yX4_bestEdge wsX4_bestEdge) := goodIn_app (goodIn_of _ (by decide +kernel)) ggX4_chooseFor_X4_bestEdge
theorem dX4_chooseFor_0 : decode cX4_chooseFor 0 = .ok (.iconst 0, 1) := by decide +kernel
theorem dX4_chooseFor_1 : decode cX4_chooseFor 1 = .ok (.istore_n 2, 1) := by decide +kernel
theorem dX4_chooseFor_2 : decode cX4_chooseFor 2 = .ok (.iload_n 2, 1) := by decide +kernel
theorem dX4_chooseFor_3 : decode cX4_chooseFor 3 = .ok (.bipush 7, 2) := by decide +kernel
theorem dX4_chooseFor_5 : decode cX4_chooseFor 5 = .ok (.if_icmp .ge 69, 3) := by decide +kernel
theorem dX4_chooseFor_8 : decode cX4_chooseFor 8 = .ok (.aload_n 0, 1) := by decide +kernel
theorem dX4_chooseFor_9 : decode cX4_chooseFor 9 = .ok (.getfield 10, 3) := by decide +kernel
theorem dX4_chooseFor_12 : decode cX4_chooseFor 12 = .ok (.iload_n 2, 1) := by decide +kernel
theorem dX4_chooseFor_13 : decode cX4_chooseFor 13 = .ok (.invokevirtual 144, 3) := by decide +kernel
theorem dX4_chooseFor_16 : decode cX4_chooseFor 16 = .ok (.ifCond .eq 31, 3) := by decide +kernel
theorem dX4_chooseFor_19 : decode cX4_chooseFor 19 = .ok (.aload_n 0, 1) := by decide +kernel
theorem dX4_chooseFor_20 : decode cX4_chooseFor 20 = .ok (.getfield 10, 3) := by decide +kernel
theorem dX4_chooseFor_23 : decode cX4_chooseFor 23 = .ok (.iload_n 2, 1) := by decide +kernel
theorem dX4_chooseFor_24 : decode cX4_chooseFor 24 = .ok (.invokevirtual 156, 3) := by decide +kernel
theorem dX4_chooseFor_27 : decode cX4_chooseFor 27 = .ok (.iload_n 1, 1) := by decide +kernel
theorem dX4_chooseFor_28 : decode cX4_chooseFor 28 = .ok (.if_icmp .ne 19, 3) := by decide +kernel
theorem dX4_chooseFor_31 : decode cX4_chooseFor 31 = .ok (.aload_n 0, 1) := by decide +kernel
theorem dX4_chooseFor_32 : decode cX4_chooseFor 32 = .ok (.getfield 10, 3) := by decide +kernel
theorem dX4_chooseFor_35 : decode cX4_chooseFor 35 = .ok (.iload_n 2, 1) := by decide +kernel
theorem dX4_chooseFor_36 : decode cX4_chooseFor 36 = .ok (.invokevirtual 94, 3) := by decide +kernel
theorem dX4_chooseFor_39 : decode cX4_chooseFor 39 = .ok (.iconst (-1), 1) := by decide +kernel
theorem dX4_chooseFor_40 : decode cX4_chooseFor 40 = .ok (.if_icmp .ne 7, 3) := by decide +kernel
theorem dX4_chooseFor_43 : decode cX4_chooseFor 43 = .ok (.iconst 1, 1) := by decide +kernel
theorem dX4_chooseFor_44 : decode cX4_chooseFor 44 = .ok (.goto 4, 3) := by decide +kernel
theorem dX4_chooseFor_47 : decode cX4_chooseFor 47 = .ok (.iconst 0, 1) := by decide +kernel
theorem dX4_chooseFor_48 : decode cX4_chooseFor 48 = .ok (.istore_n 3, 1) := by decide +kernel
theorem dX4_chooseFor_49 : decode cX4_chooseFor 49 = .ok (.aload_n 0, 1) := by decide +kernel
theorem dX4_chooseFor_50 : decode cX4_chooseFor 50 = .ok (.getfield 41, 3) := by decide +kernel
theorem dX4_chooseFor_53 : decode cX4_chooseFor 53 = .ok (.iload_n 2, 1) := by decide +kernel
theorem dX4_chooseFor_54 : decode cX4_chooseFor 54 = .ok (.iload_n 3, 1) := by decide +kernel
theorem dX4_chooseFor_55 : decode cX4_chooseFor 55 = .ok (.ifCond .eq 11, 3) := by decide +kernel
theorem dX4_chooseFor_58 : decode cX4_chooseFor 58 = .ok (.aload_n 0, 1) := by decide +kernel
theorem dX4_chooseFor_59 : decode cX4_chooseFor 59 = .ok (.iload_n 2, 1) := by decide +kernel
theorem dX4_chooseFor_60 : decode cX4_chooseFor 60 = .ok (.invokevirtual 126, 3) := by decide +kernel
theorem dX4_chooseFor_63 : decode cX4_chooseFor 63 = .ok (.goto 4, 3) := by decide +kernel
theorem dX4_chooseFor_66 : decode cX4_chooseFor 66 = .ok (.iconst (-1), 1) := by decide +kernel
theorem dX4_chooseFor_67 : decode cX4_chooseFor 67 = .ok (.iastore, 1) := by decide +kernel
theorem dX4_chooseFor_68 : decode cX4_chooseFor 68 = .ok (.iinc 2 1, 3) := by decide +kernel
theorem dX4_chooseFor_71 : decode cX4_chooseFor 71 = .ok (.goto (-69), 3) := by decide +kernel
theorem dX4_chooseFor_74 : decode cX4_chooseFor 74 = .ok (.return_, 1) := by decide +kernel
set_option maxRecDepth 20000 in
theorem ggX4_fixChosen_X1_setFixed : GoodIn wsX4_fixChosen wsX1_setFixed := goodIn_r _ [6, 7, 8, 9, 10, 4, 11, 12, 18, 19, 20, 21, 22, 23, 24, 25, 26] (by decide +kernel) (by decide +kernel)
set_option maxRecDepth 20000 in
theorem gX4_fixChosen_X1_setFixed_n90 : GoodIn wsX4_fixChosen (wsX1_setFixed) := ggX4_fixChosen_X1_setFixed
theorem dX4_fixChosen_0 : decode cX4_fixChosen 0 = .ok (.iconst 0, 1) := by decide +kernel
theorem dX4_fixChosen_1 : decode cX4_fixChosen 1 = .ok (.istore_n 1, 1) := by decide +kernel
theorem dX4_fixChosen_2 : decode cX4_fixChosen 2 = .ok (.iconst 0, 1) := by decide +kernel
theorem dX4_fixChosen_3 : decode cX4_fixChosen 3 = .ok (.istore_n 2, 1) := by decide +kernel
theorem dX4_fixChosen_4 : decode cX4_fixChosen 4 = .ok (.iload_n 2, 1) := by decide +kernel
end
section
theorem dX4_fixChosen_5 : decode cX4_fixChosen 5 = .ok (.bipush 7, 2) := by decide +kernel
theorem dX4_fixChosen_7 : decode cX4_fixChosen 7 = .ok (.if_icmp .ge 36, 3) := by decide +kernel
theorem dX4_fixChosen_10 : decode cX4_fixChosen 10 = .ok (.aload_n 0, 1) := by decide +kernel
theorem dX4_fixChosen_11 : decode cX4_fixChosen 11 = .ok (.getfield 41, 3) := by decide +kernel
theorem dX4_fixChosen_14 : decode cX4_fixChosen 14 = .ok (.iload_n 2, 1) := by decide +kernel
theorem dX4_fixChosen_15 : decode cX4_fixChosen 15 = .ok (.iaload, 1) := by decide +kernel
theorem dX4_fixChosen_16 : decode cX4_fixChosen 16 = .ok (.iconst (-1), 1) := by decide +kernel
theorem dX4_fixChosen_17 : decode cX4_fixChosen 17 = .ok (.if_icmp .eq 20, 3) := by decide +kernel
theorem dX4_fixChosen_20 : decode cX4_fixChosen 20 = .ok (.aload_n 0, 1) := by decide +kernel
theorem dX4_fixChosen_21 : decode cX4_fixChosen 21 = .ok (.getfield 10, 3) := by decide +kernel
theorem dX4_fixChosen_24 : decode cX4_fixChosen 24 = .ok (.iload_n 2, 1) := by decide +kernel
theorem dX4_fixChosen_25 : decode cX4_fixChosen 25 = .ok (.aload_n 0, 1) := by decide +kernel
theorem dX4_fixChosen_26 : decode cX4_fixChosen 26 = .ok (.getfield 41, 3) := by decide +kernel
theorem dX4_fixChosen_29 : decode cX4_fixChosen 29 = .ok (.iload_n 2, 1) := by decide +kernel
theorem dX4_fixChosen_30 : decode cX4_fixChosen 30 = .ok (.iaload, 1) := by decide +kernel
theorem dX4_fixChosen_31 : decode cX4_fixChosen 31 = .ok (.invokevirtual 90, 3) := by decide +kernel
theorem dX4_fixChosen_34 : decode cX4_fixChosen 34 = .ok (.iinc 1 1, 3) := by decide +kernel
theorem dX4_fixChosen_37 : decode cX4_fixChosen 37 = .ok (.iinc 2 1, 3) := by decide +kernel
theorem dX4_fixChosen_40 : decode cX4_fixChosen 40 = .ok (.goto (-36), 3) := by decide +kernel
theorem dX4_fixChosen_43 : decode cX4_fixChosen 43 = .ok (.iload_n 1, 1) := by decide +kernel
theorem dX4_fixChosen_44 : decode cX4_fixChosen 44 = .ok (.ireturn, 1) := by decide +kernel
set_option maxRecDepth 20000 in
theorem ggX4_tellWalk_X2_clear : GoodIn wsX4_tellWalk wsX2_clear := goodIn_r _ [6, 7, 8, 9, 10, 11, 124, 125] (by decide +kernel) (by decide +kernel)
set_option maxRecDepth 20000 in
theorem gX4_tellWalk_X2_clear_n168 : GoodIn wsX4_tellWalk (wsX2_clear) := ggX4_tellWalk_X2_clear
set_option maxRecDepth 20000 in
theorem ggX4_tellWalk_X2_has : GoodIn wsX4_tellWalk wsX2_has := goodIn_r _ [14, 7, 15, 16, 17, 4, 18, 124, 125] (by decide +kernel) (by decide +kernel)
set_option maxRecDepth 20000 in
theorem gX4_tellWalk_X2_has_n171 : GoodIn wsX4_tellWalk (wsX2_has) := ggX4_tellWalk_X2_has
set_option maxRecDepth 20000 in
theorem ggX4_tellWalk_X2_enter : GoodIn wsX4_tellWalk wsX2_enter := goodIn_r _ [21, 7, 22, 15, 16, 17, 4, 18, 124, 125] (by decide +kernel) (by decide +kernel)
set_option maxRecDepth 20000 in
theorem gX4_tellWalk_X2_enter_n174 : GoodIn wsX4_tellWalk (wsX2_enter) := ggX4_tellWalk_X2_enter
set_option maxRecDepth 20000 in
theorem ggX4_tellWalk_X4_bestEdge : GoodIn wsX4_tellWalk wsX4_bestEdge := goodIn_r _ [27, 28, 2, 29, 30, 31, 32, 33, 34, 35, 36, 37, 38, 39, 40, 41, 42, 43, 44, 45, 46, 47, 48, 49, 50, 51, 52, 53, 54, 55, 56, 57, 58, 59, 60, 61, 62, 63, 64, 65, 66, 67, 68, 69, 70, 71, 72, 73, 74, 75, 76, 77, 78, 79, 80, 81, 82, 83, 84, 85, 86, 87, 88, 89, 90, 91, 92, 93, 94, 95, 96, 97, 98, 99, 100, 101, 102, 103, 104, 105, 106, 107, 108, 109, 110, 111, 112, 119, 120, 121, 122, 123, 126, 127, 128, 129, 130, 131, 132, 133, 134, 135, 136, 137, 138, 139, 140, 141, 142] (by decide +kernel) (by decide +kernel)
set_option maxRecDepth 20000 in
theorem gX4_tellWalk_X4_bestEdge : GoodIn wsX4_tellWalk (wsV RX4 126 RX4 yX4_bestEdge wsX4_bestEdge) := goodIn_app (goodIn_of _ (by decide +kernel)) ggX4_tellWalk_X4_bestEdge
set_option maxRecDepth 20000 in
theorem ggX4_tellWalk_X1_weightOf : GoodIn wsX4_tellWalk wsX1_weightOf := goodIn_r _ [64, 65, 126, 127, 128, 129, 130, 131, 132, 133, 134] (by decide +kernel) (by decide +kernel)
set_option maxRecDepth 20000 in
theorem gX4_tellWalk_X1_weightOf_n177 : GoodIn wsX4_tellWalk (wsX1_weightOf) := ggX4_tellWalk_X1_weightOf
set_option maxRecDepth 20000 in
theorem ggX4_tellWalk_X1_targetOf : GoodIn wsX4_tellWalk wsX1_targetOf := goodIn_r _ [100, 101, 126, 127, 128, 129, 130, 131, 132, 133, 134] (by decide +kernel) (by decide +kernel)
set_option maxRecDepth 20000 in
theorem gX4_tellWalk_X1_targetOf_n180 : GoodIn wsX4_tellWalk (wsX1_targetOf) := ggX4_tellWalk_X1_targetOf
set_option maxRecDepth 20000 in
theorem ggX4_tellWalk_X2_stepsTo : GoodIn wsX4_tellWalk wsX2_stepsTo := goodIn_r _ [115, 7, 15, 16, 17, 4, 18, 124, 125] (by decide +kernel) (by decide +kernel)
set_option maxRecDepth 20000 in
theorem gX4_tellWalk_X2_stepsTo_n183 : GoodIn wsX4_tellWalk (wsX2_stepsTo) := ggX4_tellWalk_X2_stepsTo
set_option maxRecDepth 20000 in
theorem ggX4_tellWalk_X2_sumTo : GoodIn wsX4_tellWalk wsX2_sumTo := goodIn_r _ [118, 22, 15, 16, 17, 4, 18, 124, 125] (by decide +kernel) (by decide +kernel)
set_option maxRecDepth 20000 in
theorem gX4_tellWalk_X2_sumTo_n186 : GoodIn wsX4_tellWalk (wsX2_sumTo) := ggX4_tellWalk_X2_sumTo
theorem dX4_tellWalk_0 : decode cX4_tellWalk 0 = .ok (.aload_n 0, 1) := by decide +kernel
theorem dX4_tellWalk_1 : decode cX4_tellWalk 1 = .ok (.getfield 37, 3) := by decide +kernel
theorem dX4_tellWalk_4 : decode cX4_tellWalk 4 = .ok (.invokevirtual 168, 3) := by decide +kernel
theorem dX4_tellWalk_7 : decode cX4_tellWalk 7 = .ok (.iload_n 1, 1) := by decide +kernel
theorem dX4_tellWalk_8 : decode cX4_tellWalk 8 = .ok (.istore_n 3, 1) := by decide +kernel
theorem dX4_tellWalk_9 : decode cX4_tellWalk 9 = .ok (.iconst 0, 1) := by decide +kernel
theorem dX4_tellWalk_10 : decode cX4_tellWalk 10 = .ok (.istore 4, 2) := by decide +kernel
theorem dX4_tellWalk_12 : decode cX4_tellWalk 12 = .ok (.iconst 0, 1) := by decide +kernel
theorem dX4_tellWalk_13 : decode cX4_tellWalk 13 = .ok (.istore 5, 2) := by decide +kernel
theorem dX4_tellWalk_15 : decode cX4_tellWalk 15 = .ok (.iload 4, 2) := by decide +kernel
theorem dX4_tellWalk_17 : decode cX4_tellWalk 17 = .ok (.bipush 7, 2) := by decide +kernel
theorem dX4_tellWalk_19 : decode cX4_tellWalk 19 = .ok (.if_icmp .ge 63, 3) := by decide +kernel
theorem dX4_tellWalk_22 : decode cX4_tellWalk 22 = .ok (.aload_n 0, 1) := by decide +kernel
theorem dX4_tellWalk_23 : decode cX4_tellWalk 23 = .ok (.getfield 37, 3) := by decide +kernel
theorem dX4_tellWalk_26 : decode cX4_tellWalk 26 = .ok (.iload_n 3, 1) := by decide +kernel
theorem dX4_tellWalk_27 : decode cX4_tellWalk 27 = .ok (.invokevirtual 171, 3) := by decide +kernel
theorem dX4_tellWalk_30 : decode cX4_tellWalk 30 = .ok (.ifCond .ne 52, 3) := by decide +kernel
theorem dX4_tellWalk_33 : decode cX4_tellWalk 33 = .ok (.aload_n 0, 1) := by decide +kernel
theorem dX4_tellWalk_34 : decode cX4_tellWalk 34 = .ok (.getfield 37, 3) := by decide +kernel
theorem dX4_tellWalk_37 : decode cX4_tellWalk 37 = .ok (.iload_n 3, 1) := by decide +kernel
theorem dX4_tellWalk_38 : decode cX4_tellWalk 38 = .ok (.iload 4, 2) := by decide +kernel
theorem dX4_tellWalk_40 : decode cX4_tellWalk 40 = .ok (.iload 5, 2) := by decide +kernel
theorem dX4_tellWalk_42 : decode cX4_tellWalk 42 = .ok (.invokevirtual 174, 3) := by decide +kernel
theorem dX4_tellWalk_45 : decode cX4_tellWalk 45 = .ok (.aload_n 0, 1) := by decide +kernel
theorem dX4_tellWalk_46 : decode cX4_tellWalk 46 = .ok (.iload_n 3, 1) := by decide +kernel
theorem dX4_tellWalk_47 : decode cX4_tellWalk 47 = .ok (.invokevirtual 126, 3) := by decide +kernel
theorem dX4_tellWalk_50 : decode cX4_tellWalk 50 = .ok (.istore 6, 2) := by decide +kernel
theorem dX4_tellWalk_52 : decode cX4_tellWalk 52 = .ok (.iload 5, 2) := by decide +kernel
theorem dX4_tellWalk_54 : decode cX4_tellWalk 54 = .ok (.aload_n 0, 1) := by decide +kernel
theorem dX4_tellWalk_55 : decode cX4_tellWalk 55 = .ok (.getfield 10, 3) := by decide +kernel
theorem dX4_tellWalk_58 : decode cX4_tellWalk 58 = .ok (.iload 6, 2) := by decide +kernel
theorem dX4_tellWalk_60 : decode cX4_tellWalk 60 = .ok (.invokevirtual 177, 3) := by decide +kernel
theorem dX4_tellWalk_63 : decode cX4_tellWalk 63 = .ok (.iadd, 1) := by decide +kernel
theorem dX4_tellWalk_64 : decode cX4_tellWalk 64 = .ok (.istore 5, 2) := by decide +kernel
theorem dX4_tellWalk_66 : decode cX4_tellWalk 66 = .ok (.aload_n 0, 1) := by decide +kernel
theorem dX4_tellWalk_67 : decode cX4_tellWalk 67 = .ok (.getfield 10, 3) := by decide +kernel
theorem dX4_tellWalk_70 : decode cX4_tellWalk 70 = .ok (.iload 6, 2) := by decide +kernel
theorem dX4_tellWalk_72 : decode cX4_tellWalk 72 = .ok (.invokevirtual 180, 3) := by decide +kernel
theorem dX4_tellWalk_75 : decode cX4_tellWalk 75 = .ok (.istore_n 3, 1) := by decide +kernel
theorem dX4_tellWalk_76 : decode cX4_tellWalk 76 = .ok (.iinc 4 1, 3) := by decide +kernel
theorem dX4_tellWalk_79 : decode cX4_tellWalk 79 = .ok (.goto (-64), 3) := by decide +kernel
theorem dX4_tellWalk_82 : decode cX4_tellWalk 82 = .ok (.iload_n 2, 1) := by decide +kernel
theorem dX4_tellWalk_83 : decode cX4_tellWalk 83 = .ok (.tableswitch 58 0 2 #[25, 34, 46], 25) := by decide +kernel
theorem dX4_tellWalk_108 : decode cX4_tellWalk 108 = .ok (.aload_n 0, 1) := by decide +kernel
theorem dX4_tellWalk_109 : decode cX4_tellWalk 109 = .ok (.getfield 37, 3) := by decide +kernel
theorem dX4_tellWalk_112 : decode cX4_tellWalk 112 = .ok (.iload_n 3, 1) := by decide +kernel
theorem dX4_tellWalk_113 : decode cX4_tellWalk 113 = .ok (.invokevirtual 183, 3) := by decide +kernel
theorem dX4_tellWalk_116 : decode cX4_tellWalk 116 = .ok (.ireturn, 1) := by decide +kernel
theorem dX4_tellWalk_117 : decode cX4_tellWalk 117 = .ok (.iload 4, 2) := by decide +kernel
theorem dX4_tellWalk_119 : decode cX4_tellWalk 119 = .ok (.aload_n 0, 1) := by decide +kernel
theorem dX4_tellWalk_120 : decode cX4_tellWalk 120 = .ok (.getfield 37, 3) := by decide +kernel
theorem dX4_tellWalk_123 : decode cX4_tellWalk 123 = .ok (.iload_n 3, 1) := by decide +kernel
theorem dX4_tellWalk_124 : decode cX4_tellWalk 124 = .ok (.invokevirtual 183, 3) := by decide +kernel
theorem dX4_tellWalk_127 : decode cX4_tellWalk 127 = .ok (.isub, 1) := by decide +kernel
theorem dX4_tellWalk_128 : decode cX4_tellWalk 128 = .ok (.ireturn, 1) := by decide +kernel
theorem dX4_tellWalk_129 : decode cX4_tellWalk 129 = .ok (.iload 5, 2) := by decide +kernel
theorem dX4_tellWalk_131 : decode cX4_tellWalk 131 = .ok (.aload_n 0, 1) := by decide +kernel
theorem dX4_tellWalk_132 : decode cX4_tellWalk 132 = .ok (.getfield 37, 3) := by decide +kernel
theorem dX4_tellWalk_135 : decode cX4_tellWalk 135 = .ok (.iload_n 3, 1) := by decide +kernel
theorem dX4_tellWalk_136 : decode cX4_tellWalk 136 = .ok (.invokevirtual 186, 3) := by decide +kernel
theorem dX4_tellWalk_139 : decode cX4_tellWalk 139 = .ok (.isub, 1) := by decide +kernel
theorem dX4_tellWalk_140 : decode cX4_tellWalk 140 = .ok (.ireturn, 1) := by decide +kernel
theorem dX4_tellWalk_141 : decode cX4_tellWalk 141 = .ok (.iload_n 3, 1) := by decide +kernel
theorem dX4_tellWalk_142 : decode cX4_tellWalk 142 = .ok (.ireturn, 1) := by decide +kernel
theorem dX5_init_0 : decode cX5_init 0 = .ok (.aload_n 0, 1) := by decide +kernel
theorem dX5_init_1 : decode cX5_init 1 = .ok (.invokespecial 1, 3) := by decide +kernel
theorem dX5_init_4 : decode cX5_init 4 = .ok (.aload_n 0, 1) := by decide +kernel
theorem dX5_init_5 : decode cX5_init 5 = .ok (.bipush 7, 2) := by decide +kernel
theorem dX5_init_7 : decode cX5_init 7 = .ok (.newarray .int, 2) := by decide +kernel
theorem dX5_init_9 : decode cX5_init 9 = .ok (.putfield 7, 3) := by decide +kernel
theorem dX5_init_12 : decode cX5_init 12 = .ok (.aload_n 0, 1) := by decide +kernel
theorem dX5_init_13 : decode cX5_init 13 = .ok (.bipush 7, 2) := by decide +kernel
theorem dX5_init_15 : decode cX5_init 15 = .ok (.newarray .int, 2) := by decide +kernel
theorem dX5_init_17 : decode cX5_init 17 = .ok (.putfield 13, 3) := by decide +kernel
theorem dX5_init_20 : decode cX5_init 20 = .ok (.aload_n 0, 1) := by decide +kernel
theorem dX5_init_21 : decode cX5_init 21 = .ok (.bipush 24, 2) := by decide +kernel
theorem dX5_init_23 : decode cX5_init 23 = .ok (.newarray .int, 2) := by decide +kernel
theorem dX5_init_25 : decode cX5_init 25 = .ok (.putfield 16, 3) := by decide +kernel
theorem dX5_init_28 : decode cX5_init 28 = .ok (.aload_n 0, 1) := by decide +kernel
theorem dX5_init_29 : decode cX5_init 29 = .ok (.bipush 24, 2) := by decide +kernel
theorem dX5_init_31 : decode cX5_init 31 = .ok (.newarray .int, 2) := by decide +kernel
theorem dX5_init_33 : decode cX5_init 33 = .ok (.putfield 19, 3) := by decide +kernel
theorem dX5_init_36 : decode cX5_init 36 = .ok (.aload_n 0, 1) := by decide +kernel
theorem dX5_init_37 : decode cX5_init 37 = .ok (.bipush 24, 2) := by decide +kernel
theorem dX5_init_39 : decode cX5_init 39 = .ok (.newarray .int, 2) := by decide +kernel
theorem dX5_init_41 : decode cX5_init 41 = .ok (.putfield 22, 3) := by decide +kernel
theorem dX5_init_44 : decode cX5_init 44 = .ok (.aload_n 0, 1) := by decide +kernel
theorem dX5_init_45 : decode cX5_init 45 = .ok (.bipush 7, 2) := by decide +kernel
theorem dX5_init_47 : decode cX5_init 47 = .ok (.newarray .int, 2) := by decide +kernel
theorem dX5_init_49 : decode cX5_init 49 = .ok (.putfield 25, 3) := by decide +kernel
theorem dX5_init_52 : decode cX5_init 52 = .ok (.aload_n 0, 1) := by decide +kernel
theorem dX5_init_53 : decode cX5_init 53 = .ok (.bipush 7, 2) := by decide +kernel
theorem dX5_init_55 : decode cX5_init 55 = .ok (.newarray .int, 2) := by decide +kernel
theorem dX5_init_57 : decode cX5_init 57 = .ok (.putfield 28, 3) := by decide +kernel
theorem dX5_init_60 : decode cX5_init 60 = .ok (.aload_n 0, 1) := by decide +kernel
theorem dX5_init_61 : decode cX5_init 61 = .ok (.bipush 7, 2) := by decide +kernel
theorem dX5_init_63 : decode cX5_init 63 = .ok (.newarray .long, 2) := by decide +kernel
theorem dX5_init_65 : decode cX5_init 65 = .ok (.putfield 31, 3) := by decide +kernel
theorem dX5_init_68 : decode cX5_init 68 = .ok (.aload_n 0, 1) := by decide +kernel
theorem dX5_init_69 : decode cX5_init 69 = .ok (.bipush 7, 2) := by decide +kernel
theorem dX5_init_71 : decode cX5_init 71 = .ok (.newarray .long, 2) := by decide +kernel
theorem dX5_init_73 : decode cX5_init 73 = .ok (.putfield 35, 3) := by decide +kernel
theorem dX5_init_76 : decode cX5_init 76 = .ok (.aload_n 0, 1) := by decide +kernel
theorem dX5_init_77 : decode cX5_init 77 = .ok (.bipush 7, 2) := by decide +kernel
theorem dX5_init_79 : decode cX5_init 79 = .ok (.newarray .int, 2) := by decide +kernel
theorem dX5_init_81 : decode cX5_init 81 = .ok (.putfield 38, 3) := by decide +kernel
theorem dX5_init_84 : decode cX5_init 84 = .ok (.aload_n 0, 1) := by decide +kernel
theorem dX5_init_85 : decode cX5_init 85 = .ok (.bipush 7, 2) := by decide +kernel
theorem dX5_init_87 : decode cX5_init 87 = .ok (.newarray .int, 2) := by decide +kernel
theorem dX5_init_89 : decode cX5_init 89 = .ok (.putfield 41, 3) := by decide +kernel
theorem dX5_init_92 : decode cX5_init 92 = .ok (.aload_n 0, 1) := by decide +kernel
theorem dX5_init_93 : decode cX5_init 93 = .ok (.bipush 7, 2) := by decide +kernel
theorem dX5_init_95 : decode cX5_init 95 = .ok (.newarray .int, 2) := by decide +kernel
theorem dX5_init_97 : decode cX5_init 97 = .ok (.putfield 44, 3) := by decide +kernel
theorem dX5_init_100 : decode cX5_init 100 = .ok (.return_, 1) := by decide +kernel
theorem dX5_thrown_0 : decode cX5_thrown 0 = .ok (.aload_n 0, 1) := by decide +kernel
theorem dX5_thrown_1 : decode cX5_thrown 1 = .ok (.getfield 47, 3) := by decide +kernel
theorem dX5_thrown_4 : decode cX5_thrown 4 = .ok (.ireturn, 1) := by decide +kernel
theorem dX5_isVertex_0 : decode cX5_isVertex 0 = .ok (.iload_n 1, 1) := by decide +kernel
theorem dX5_isVertex_1 : decode cX5_isVertex 1 = .ok (.ifCond .lt 15, 3) := by decide +kernel
theorem dX5_isVertex_4 : decode cX5_isVertex 4 = .ok (.iload_n 1, 1) := by decide +kernel
theorem dX5_isVertex_5 : decode cX5_isVertex 5 = .ok (.aload_n 0, 1) := by decide +kernel
theorem dX5_isVertex_6 : decode cX5_isVertex 6 = .ok (.getfield 51, 3) := by decide +kernel
theorem dX5_isVertex_9 : decode cX5_isVertex 9 = .ok (.if_icmp .ge 7, 3) := by decide +kernel
theorem dX5_isVertex_12 : decode cX5_isVertex 12 = .ok (.iconst 1, 1) := by decide +kernel
theorem dX5_isVertex_13 : decode cX5_isVertex 13 = .ok (.goto 4, 3) := by decide +kernel
theorem dX5_isVertex_16 : decode cX5_isVertex 16 = .ok (.iconst 0, 1) := by decide +kernel
theorem dX5_isVertex_17 : decode cX5_isVertex 17 = .ok (.ireturn, 1) := by decide +kernel
theorem dX5_leads_0 : decode cX5_leads 0 = .ok (.aload_n 0, 1) := by decide +kernel
theorem dX5_leads_1 : decode cX5_leads 1 = .ok (.getfield 16, 3) := by decide +kernel
theorem dX5_leads_4 : decode cX5_leads 4 = .ok (.iload_n 1, 1) := by decide +kernel
theorem dX5_leads_5 : decode cX5_leads 5 = .ok (.iaload, 1) := by decide +kernel
theorem dX5_leads_6 : decode cX5_leads 6 = .ok (.iload_n 2, 1) := by decide +kernel
theorem dX5_leads_7 : decode cX5_leads 7 = .ok (.if_icmp .ne 27, 3) := by decide +kernel
theorem dX5_leads_10 : decode cX5_leads 10 = .ok (.aload_n 0, 1) := by decide +kernel
theorem dX5_leads_11 : decode cX5_leads 11 = .ok (.getfield 13, 3) := by decide +kernel
theorem dX5_leads_14 : decode cX5_leads 14 = .ok (.iload_n 2, 1) := by decide +kernel
theorem dX5_leads_15 : decode cX5_leads 15 = .ok (.iaload, 1) := by decide +kernel
theorem dX5_leads_16 : decode cX5_leads 16 = .ok (.iconst (-1), 1) := by decide +kernel
theorem dX5_leads_17 : decode cX5_leads 17 = .ok (.if_icmp .eq 13, 3) := by decide +kernel
theorem dX5_leads_20 : decode cX5_leads 20 = .ok (.aload_n 0, 1) := by decide +kernel
theorem dX5_leads_21 : decode cX5_leads 21 = .ok (.getfield 13, 3) := by decide +kernel
theorem dX5_leads_24 : decode cX5_leads 24 = .ok (.iload_n 2, 1) := by decide +kernel
theorem dX5_leads_25 : decode cX5_leads 25 = .ok (.iaload, 1) := by decide +kernel
theorem dX5_leads_26 : decode cX5_leads 26 = .ok (.iload_n 1, 1) := by decide +kernel
theorem dX5_leads_27 : decode cX5_leads 27 = .ok (.if_icmp .ne 7, 3) := by decide +kernel
theorem dX5_leads_30 : decode cX5_leads 30 = .ok (.iconst 1, 1) := by decide +kernel
theorem dX5_leads_31 : decode cX5_leads 31 = .ok (.goto 4, 3) := by decide +kernel
theorem dX5_leads_34 : decode cX5_leads 34 = .ok (.iconst 0, 1) := by decide +kernel
theorem dX5_leads_35 : decode cX5_leads 35 = .ok (.ireturn, 1) := by decide +kernel
set_option maxRecDepth 20000 in
theorem ggX5_isComplete_X5_leads : GoodIn wsX5_isComplete wsX5_leads := goodIn_r _ [7, 8, 9, 10, 11, 12, 13, 14, 15, 16, 17, 18, 19, 20, 21, 22, 23, 24, 25] (by decide +kernel) (by decide +kernel)
set_option maxRecDepth 20000 in
theorem gX5_isComplete_X5_leads : GoodIn wsX5_isComplete (wsV RX5 57 RX5 yX5_leads wsX5_leads) := goodIn_app (goodIn_of _ (by decide +kernel)) ggX5_isComplete_X5_leads
theorem dX5_isComplete_0 : decode cX5_isComplete 0 = .ok (.iconst 0, 1) := by decide +kernel
theorem dX5_isComplete_1 : decode cX5_isComplete 1 = .ok (.istore_n 1, 1) := by decide +kernel
theorem dX5_isComplete_2 : decode cX5_isComplete 2 = .ok (.iload_n 1, 1) := by decide +kernel
theorem dX5_isComplete_3 : decode cX5_isComplete 3 = .ok (.aload_n 0, 1) := by decide +kernel
theorem dX5_isComplete_4 : decode cX5_isComplete 4 = .ok (.getfield 51, 3) := by decide +kernel
theorem dX5_isComplete_7 : decode cX5_isComplete 7 = .ok (.if_icmp .ge 52, 3) := by decide +kernel
theorem dX5_isComplete_10 : decode cX5_isComplete 10 = .ok (.iconst 0, 1) := by decide +kernel
theorem dX5_isComplete_11 : decode cX5_isComplete 11 = .ok (.istore_n 2, 1) := by decide +kernel
theorem dX5_isComplete_12 : decode cX5_isComplete 12 = .ok (.iconst 0, 1) := by decide +kernel
theorem dX5_isComplete_13 : decode cX5_isComplete 13 = .ok (.istore_n 3, 1) := by decide +kernel
theorem dX5_isComplete_14 : decode cX5_isComplete 14 = .ok (.iload_n 3, 1) := by decide +kernel
theorem dX5_isComplete_15 : decode cX5_isComplete 15 = .ok (.aload_n 0, 1) := by decide +kernel
theorem dX5_isComplete_16 : decode cX5_isComplete 16 = .ok (.getfield 54, 3) := by decide +kernel
theorem dX5_isComplete_19 : decode cX5_isComplete 19 = .ok (.if_icmp .ge 28, 3) := by decide +kernel
theorem dX5_isComplete_22 : decode cX5_isComplete 22 = .ok (.iload_n 2, 1) := by decide +kernel
theorem dX5_isComplete_23 : decode cX5_isComplete 23 = .ok (.ifCond .ne 12, 3) := by decide +kernel
theorem dX5_isComplete_26 : decode cX5_isComplete 26 = .ok (.aload_n 0, 1) := by decide +kernel
theorem dX5_isComplete_27 : decode cX5_isComplete 27 = .ok (.iload_n 3, 1) := by decide +kernel
theorem dX5_isComplete_28 : decode cX5_isComplete 28 = .ok (.iload_n 1, 1) := by decide +kernel
theorem dX5_isComplete_29 : decode cX5_isComplete 29 = .ok (.invokevirtual 57, 3) := by decide +kernel
theorem dX5_isComplete_32 : decode cX5_isComplete 32 = .ok (.ifCond .eq 7, 3) := by decide +kernel
theorem dX5_isComplete_35 : decode cX5_isComplete 35 = .ok (.iconst 1, 1) := by decide +kernel
theorem dX5_isComplete_36 : decode cX5_isComplete 36 = .ok (.goto 4, 3) := by decide +kernel
theorem dX5_isComplete_39 : decode cX5_isComplete 39 = .ok (.iconst 0, 1) := by decide +kernel
theorem dX5_isComplete_40 : decode cX5_isComplete 40 = .ok (.istore_n 2, 1) := by decide +kernel
theorem dX5_isComplete_41 : decode cX5_isComplete 41 = .ok (.iinc 3 1, 3) := by decide +kernel
theorem dX5_isComplete_44 : decode cX5_isComplete 44 = .ok (.goto (-30), 3) := by decide +kernel
theorem dX5_isComplete_47 : decode cX5_isComplete 47 = .ok (.iload_n 2, 1) := by decide +kernel
theorem dX5_isComplete_48 : decode cX5_isComplete 48 = .ok (.ifCond .ne 5, 3) := by decide +kernel
theorem dX5_isComplete_51 : decode cX5_isComplete 51 = .ok (.iconst 0, 1) := by decide +kernel
theorem dX5_isComplete_52 : decode cX5_isComplete 52 = .ok (.ireturn, 1) := by decide +kernel
theorem dX5_isComplete_53 : decode cX5_isComplete 53 = .ok (.iinc 1 1, 3) := by decide +kernel
theorem dX5_isComplete_56 : decode cX5_isComplete 56 = .ok (.goto (-54), 3) := by decide +kernel
theorem dX5_isComplete_59 : decode cX5_isComplete 59 = .ok (.aload_n 0, 1) := by decide +kernel
theorem dX5_isComplete_60 : decode cX5_isComplete 60 = .ok (.getfield 51, 3) := by decide +kernel
theorem dX5_isComplete_63 : decode cX5_isComplete 63 = .ok (.ifCond .le 7, 3) := by decide +kernel
theorem dX5_isComplete_66 : decode cX5_isComplete 66 = .ok (.iconst 1, 1) := by decide +kernel
theorem dX5_isComplete_67 : decode cX5_isComplete 67 = .ok (.goto 4, 3) := by decide +kernel
theorem dX5_isComplete_70 : decode cX5_isComplete 70 = .ok (.iconst 0, 1) := by decide +kernel
theorem dX5_isComplete_71 : decode cX5_isComplete 71 = .ok (.ireturn, 1) := by decide +kernel
theorem dX5_vertex_0 : decode cX5_vertex 0 = .ok (.aload_n 0, 1) := by decide +kernel
theorem dX5_vertex_1 : decode cX5_vertex 1 = .ok (.iload_n 1, 1) := by decide +kernel
theorem dX5_vertex_2 : decode cX5_vertex 2 = .ok (.ifCond .eq 12, 3) := by decide +kernel
theorem dX5_vertex_5 : decode cX5_vertex 5 = .ok (.iload_n 1, 1) := by decide +kernel
theorem dX5_vertex_6 : decode cX5_vertex 6 = .ok (.iconst 1, 1) := by decide +kernel
theorem dX5_vertex_7 : decode cX5_vertex 7 = .ok (.if_icmp .eq 7, 3) := by decide +kernel
theorem dX5_vertex_10 : decode cX5_vertex 10 = .ok (.iconst 1, 1) := by decide +kernel
theorem dX5_vertex_11 : decode cX5_vertex 11 = .ok (.goto 17, 3) := by decide +kernel
theorem dX5_vertex_14 : decode cX5_vertex 14 = .ok (.aload_n 0, 1) := by decide +kernel
theorem dX5_vertex_15 : decode cX5_vertex 15 = .ok (.getfield 51, 3) := by decide +kernel
theorem dX5_vertex_18 : decode cX5_vertex 18 = .ok (.bipush 7, 2) := by decide +kernel
theorem dX5_vertex_20 : decode cX5_vertex 20 = .ok (.if_icmp .ne 7, 3) := by decide +kernel
theorem dX5_vertex_23 : decode cX5_vertex 23 = .ok (.iconst 2, 1) := by decide +kernel
theorem dX5_vertex_24 : decode cX5_vertex 24 = .ok (.goto 4, 3) := by decide +kernel
theorem dX5_vertex_27 : decode cX5_vertex 27 = .ok (.iconst 0, 1) := by decide +kernel
theorem dX5_vertex_28 : decode cX5_vertex 28 = .ok (.putfield 47, 3) := by decide +kernel
theorem dX5_vertex_31 : decode cX5_vertex 31 = .ok (.aload_n 0, 1) := by decide +kernel
theorem dX5_vertex_32 : decode cX5_vertex 32 = .ok (.getfield 47, 3) := by decide +kernel
theorem dX5_vertex_35 : decode cX5_vertex 35 = .ok (.ifCond .le 5, 3) := by decide +kernel
theorem dX5_vertex_38 : decode cX5_vertex 38 = .ok (.iconst 0, 1) := by decide +kernel
theorem dX5_vertex_39 : decode cX5_vertex 39 = .ok (.ireturn, 1) := by decide +kernel
theorem dX5_vertex_40 : decode cX5_vertex 40 = .ok (.aload_n 0, 1) := by decide +kernel
theorem dX5_vertex_41 : decode cX5_vertex 41 = .ok (.getfield 7, 3) := by decide +kernel
theorem dX5_vertex_44 : decode cX5_vertex 44 = .ok (.aload_n 0, 1) := by decide +kernel
theorem dX5_vertex_45 : decode cX5_vertex 45 = .ok (.getfield 51, 3) := by decide +kernel
theorem dX5_vertex_48 : decode cX5_vertex 48 = .ok (.iload_n 1, 1) := by decide +kernel
theorem dX5_vertex_49 : decode cX5_vertex 49 = .ok (.iastore, 1) := by decide +kernel
theorem dX5_vertex_50 : decode cX5_vertex 50 = .ok (.aload_n 0, 1) := by decide +kernel
theorem dX5_vertex_51 : decode cX5_vertex 51 = .ok (.getfield 13, 3) := by decide +kernel
theorem dX5_vertex_54 : decode cX5_vertex 54 = .ok (.aload_n 0, 1) := by decide +kernel
theorem dX5_vertex_55 : decode cX5_vertex 55 = .ok (.getfield 51, 3) := by decide +kernel
theorem dX5_vertex_58 : decode cX5_vertex 58 = .ok (.iconst (-1), 1) := by decide +kernel
theorem dX5_vertex_59 : decode cX5_vertex 59 = .ok (.iastore, 1) := by decide +kernel
theorem dX5_vertex_60 : decode cX5_vertex 60 = .ok (.aload_n 0, 1) := by decide +kernel
theorem dX5_vertex_61 : decode cX5_vertex 61 = .ok (.dup, 1) := by decide +kernel
theorem dX5_vertex_62 : decode cX5_vertex 62 = .ok (.getfield 51, 3) := by decide +kernel
theorem dX5_vertex_65 : decode cX5_vertex 65 = .ok (.iconst 1, 1) := by decide +kernel
theorem dX5_vertex_66 : decode cX5_vertex 66 = .ok (.iadd, 1) := by decide +kernel
theorem dX5_vertex_67 : decode cX5_vertex 67 = .ok (.putfield 51, 3) := by decide +kernel
theorem dX5_vertex_70 : decode cX5_vertex 70 = .ok (.aload_n 0, 1) := by decide +kernel
theorem dX5_vertex_71 : decode cX5_vertex 71 = .ok (.iconst 0, 1) := by decide +kernel
theorem dX5_vertex_72 : decode cX5_vertex 72 = .ok (.putfield 61, 3) := by decide +kernel
theorem dX5_vertex_75 : decode cX5_vertex 75 = .ok (.aload_n 0, 1) := by decide +kernel
theorem dX5_vertex_76 : decode cX5_vertex 76 = .ok (.getfield 51, 3) := by decide +kernel
theorem dX5_vertex_79 : decode cX5_vertex 79 = .ok (.iconst 1, 1) := by decide +kernel
theorem dX5_vertex_80 : decode cX5_vertex 80 = .ok (.isub, 1) := by decide +kernel
theorem dX5_vertex_81 : decode cX5_vertex 81 = .ok (.ireturn, 1) := by decide +kernel
set_option maxRecDepth 20000 in
theorem ggX5_edge_X5_isVertex : GoodIn wsX5_edge wsX5_isVertex := goodIn_r _ [11, 12, 13, 14, 15, 16, 17, 18, 19, 20, 21, 22, 23, 24, 25, 26, 27, 28] (by decide +kernel) (by decide +kernel)
set_option maxRecDepth 20000 in
theorem gX5_edge_X5_isVertex : GoodIn wsX5_edge (wsV RX5 65 RX5 yX5_isVertex wsX5_isVertex) := goodIn_app (goodIn_of _ (by decide +kernel)) ggX5_edge_X5_isVertex
theorem dX5_edge_0 : decode cX5_edge 0 = .ok (.aload_n 0, 1) := by decide +kernel
theorem dX5_edge_1 : decode cX5_edge 1 = .ok (.aload_n 0, 1) := by decide +kernel
theorem dX5_edge_2 : decode cX5_edge 2 = .ok (.iload_n 1, 1) := by decide +kernel
theorem dX5_edge_3 : decode cX5_edge 3 = .ok (.invokevirtual 65, 3) := by decide +kernel
theorem dX5_edge_6 : decode cX5_edge 6 = .ok (.ifCond .eq 23, 3) := by decide +kernel
theorem dX5_edge_9 : decode cX5_edge 9 = .ok (.aload_n 0, 1) := by decide +kernel
theorem dX5_edge_10 : decode cX5_edge 10 = .ok (.iload_n 2, 1) := by decide +kernel
theorem dX5_edge_11 : decode cX5_edge 11 = .ok (.invokevirtual 65, 3) := by decide +kernel
theorem dX5_edge_14 : decode cX5_edge 14 = .ok (.ifCond .eq 15, 3) := by decide +kernel
theorem dX5_edge_17 : decode cX5_edge 17 = .ok (.iload_n 3, 1) := by decide +kernel
theorem dX5_edge_18 : decode cX5_edge 18 = .ok (.bipush (-9), 2) := by decide +kernel
theorem dX5_edge_20 : decode cX5_edge 20 = .ok (.if_icmp .lt 9, 3) := by decide +kernel
theorem dX5_edge_23 : decode cX5_edge 23 = .ok (.iload_n 3, 1) := by decide +kernel
theorem dX5_edge_24 : decode cX5_edge 24 = .ok (.bipush 9, 2) := by decide +kernel
theorem dX5_edge_26 : decode cX5_edge 26 = .ok (.if_icmp .le 7, 3) := by decide +kernel
theorem dX5_edge_29 : decode cX5_edge 29 = .ok (.iconst 1, 1) := by decide +kernel
theorem dX5_edge_30 : decode cX5_edge 30 = .ok (.goto 17, 3) := by decide +kernel
theorem dX5_edge_33 : decode cX5_edge 33 = .ok (.aload_n 0, 1) := by decide +kernel
theorem dX5_edge_34 : decode cX5_edge 34 = .ok (.getfield 54, 3) := by decide +kernel
theorem dX5_edge_37 : decode cX5_edge 37 = .ok (.bipush 24, 2) := by decide +kernel
theorem dX5_edge_39 : decode cX5_edge 39 = .ok (.if_icmp .ne 7, 3) := by decide +kernel
theorem dX5_edge_42 : decode cX5_edge 42 = .ok (.iconst 2, 1) := by decide +kernel
theorem dX5_edge_43 : decode cX5_edge 43 = .ok (.goto 4, 3) := by decide +kernel
theorem dX5_edge_46 : decode cX5_edge 46 = .ok (.iconst 0, 1) := by decide +kernel
theorem dX5_edge_47 : decode cX5_edge 47 = .ok (.putfield 47, 3) := by decide +kernel
theorem dX5_edge_50 : decode cX5_edge 50 = .ok (.aload_n 0, 1) := by decide +kernel
theorem dX5_edge_51 : decode cX5_edge 51 = .ok (.getfield 47, 3) := by decide +kernel
theorem dX5_edge_54 : decode cX5_edge 54 = .ok (.ifCond .le 5, 3) := by decide +kernel
theorem dX5_edge_57 : decode cX5_edge 57 = .ok (.iconst 0, 1) := by decide +kernel
theorem dX5_edge_58 : decode cX5_edge 58 = .ok (.ireturn, 1) := by decide +kernel
theorem dX5_edge_59 : decode cX5_edge 59 = .ok (.aload_n 0, 1) := by decide +kernel
theorem dX5_edge_60 : decode cX5_edge 60 = .ok (.getfield 16, 3) := by decide +kernel
theorem dX5_edge_63 : decode cX5_edge 63 = .ok (.aload_n 0, 1) := by decide +kernel
theorem dX5_edge_64 : decode cX5_edge 64 = .ok (.getfield 54, 3) := by decide +kernel
theorem dX5_edge_67 : decode cX5_edge 67 = .ok (.iload_n 1, 1) := by decide +kernel
theorem dX5_edge_68 : decode cX5_edge 68 = .ok (.iastore, 1) := by decide +kernel
theorem dX5_edge_69 : decode cX5_edge 69 = .ok (.aload_n 0, 1) := by decide +kernel
theorem dX5_edge_70 : decode cX5_edge 70 = .ok (.getfield 19, 3) := by decide +kernel
theorem dX5_edge_73 : decode cX5_edge 73 = .ok (.aload_n 0, 1) := by decide +kernel
theorem dX5_edge_74 : decode cX5_edge 74 = .ok (.getfield 54, 3) := by decide +kernel
theorem dX5_edge_77 : decode cX5_edge 77 = .ok (.iload_n 2, 1) := by decide +kernel
theorem dX5_edge_78 : decode cX5_edge 78 = .ok (.iastore, 1) := by decide +kernel
theorem dX5_edge_79 : decode cX5_edge 79 = .ok (.aload_n 0, 1) := by decide +kernel
theorem dX5_edge_80 : decode cX5_edge 80 = .ok (.getfield 22, 3) := by decide +kernel
theorem dX5_edge_83 : decode cX5_edge 83 = .ok (.aload_n 0, 1) := by decide +kernel
theorem dX5_edge_84 : decode cX5_edge 84 = .ok (.getfield 54, 3) := by decide +kernel
theorem dX5_edge_87 : decode cX5_edge 87 = .ok (.iload_n 3, 1) := by decide +kernel
theorem dX5_edge_88 : decode cX5_edge 88 = .ok (.iastore, 1) := by decide +kernel
theorem dX5_edge_89 : decode cX5_edge 89 = .ok (.aload_n 0, 1) := by decide +kernel
theorem dX5_edge_90 : decode cX5_edge 90 = .ok (.dup, 1) := by decide +kernel
theorem dX5_edge_91 : decode cX5_edge 91 = .ok (.getfield 54, 3) := by decide +kernel
theorem dX5_edge_94 : decode cX5_edge 94 = .ok (.iconst 1, 1) := by decide +kernel
theorem dX5_edge_95 : decode cX5_edge 95 = .ok (.iadd, 1) := by decide +kernel
theorem dX5_edge_96 : decode cX5_edge 96 = .ok (.putfield 54, 3) := by decide +kernel
theorem dX5_edge_99 : decode cX5_edge 99 = .ok (.aload_n 0, 1) := by decide +kernel
theorem dX5_edge_100 : decode cX5_edge 100 = .ok (.iconst 0, 1) := by decide +kernel
theorem dX5_edge_101 : decode cX5_edge 101 = .ok (.putfield 61, 3) := by decide +kernel
theorem dX5_edge_104 : decode cX5_edge 104 = .ok (.aload_n 0, 1) := by decide +kernel
theorem dX5_edge_105 : decode cX5_edge 105 = .ok (.getfield 54, 3) := by decide +kernel
theorem dX5_edge_108 : decode cX5_edge 108 = .ok (.iconst 1, 1) := by decide +kernel
theorem dX5_edge_109 : decode cX5_edge 109 = .ok (.isub, 1) := by decide +kernel
theorem dX5_edge_110 : decode cX5_edge 110 = .ok (.ireturn, 1) := by decide +kernel
set_option maxRecDepth 20000 in
theorem ggX5_fix_X5_isVertex : GoodIn wsX5_fix wsX5_isVertex := goodIn_r _ [10, 11, 12, 13, 14, 15, 16, 17, 18, 19, 20, 21, 22, 23, 24, 25, 26, 27] (by decide +kernel) (by decide +kernel)
set_option maxRecDepth 20000 in
theorem gX5_fix_X5_isVertex : GoodIn wsX5_fix (wsV RX5 65 RX5 yX5_isVertex wsX5_isVertex) := goodIn_app (goodIn_of _ (by decide +kernel)) ggX5_fix_X5_isVertex
theorem dX5_fix_0 : decode cX5_fix 0 = .ok (.aload_n 0, 1) := by decide +kernel
theorem dX5_fix_1 : decode cX5_fix 1 = .ok (.aload_n 0, 1) := by decide +kernel
theorem dX5_fix_2 : decode cX5_fix 2 = .ok (.iload_n 1, 1) := by decide +kernel
theorem dX5_fix_3 : decode cX5_fix 3 = .ok (.invokevirtual 65, 3) := by decide +kernel
theorem dX5_fix_6 : decode cX5_fix 6 = .ok (.ifCond .eq 30, 3) := by decide +kernel
theorem dX5_fix_9 : decode cX5_fix 9 = .ok (.iload_n 2, 1) := by decide +kernel
theorem dX5_fix_10 : decode cX5_fix 10 = .ok (.iconst (-1), 1) := by decide +kernel
theorem dX5_fix_11 : decode cX5_fix 11 = .ok (.if_icmp .eq 29, 3) := by decide +kernel
theorem dX5_fix_14 : decode cX5_fix 14 = .ok (.iload_n 2, 1) := by decide +kernel
theorem dX5_fix_15 : decode cX5_fix 15 = .ok (.ifCond .lt 21, 3) := by decide +kernel
theorem dX5_fix_18 : decode cX5_fix 18 = .ok (.iload_n 2, 1) := by decide +kernel
theorem dX5_fix_19 : decode cX5_fix 19 = .ok (.aload_n 0, 1) := by decide +kernel
theorem dX5_fix_20 : decode cX5_fix 20 = .ok (.getfield 54, 3) := by decide +kernel
theorem dX5_fix_23 : decode cX5_fix 23 = .ok (.if_icmp .ge 13, 3) := by decide +kernel
theorem dX5_fix_26 : decode cX5_fix 26 = .ok (.aload_n 0, 1) := by decide +kernel
theorem dX5_fix_27 : decode cX5_fix 27 = .ok (.getfield 16, 3) := by decide +kernel
theorem dX5_fix_30 : decode cX5_fix 30 = .ok (.iload_n 2, 1) := by decide +kernel
theorem dX5_fix_31 : decode cX5_fix 31 = .ok (.iaload, 1) := by decide +kernel
theorem dX5_fix_32 : decode cX5_fix 32 = .ok (.iload_n 1, 1) := by decide +kernel
theorem dX5_fix_33 : decode cX5_fix 33 = .ok (.if_icmp .eq 7, 3) := by decide +kernel
theorem dX5_fix_36 : decode cX5_fix 36 = .ok (.iconst 1, 1) := by decide +kernel
theorem dX5_fix_37 : decode cX5_fix 37 = .ok (.goto 4, 3) := by decide +kernel
theorem dX5_fix_40 : decode cX5_fix 40 = .ok (.iconst 0, 1) := by decide +kernel
theorem dX5_fix_41 : decode cX5_fix 41 = .ok (.putfield 47, 3) := by decide +kernel
theorem dX5_fix_44 : decode cX5_fix 44 = .ok (.aload_n 0, 1) := by decide +kernel
theorem dX5_fix_45 : decode cX5_fix 45 = .ok (.getfield 47, 3) := by decide +kernel
theorem dX5_fix_48 : decode cX5_fix 48 = .ok (.ifCond .le 4, 3) := by decide +kernel
theorem dX5_fix_51 : decode cX5_fix 51 = .ok (.return_, 1) := by decide +kernel
theorem dX5_fix_52 : decode cX5_fix 52 = .ok (.aload_n 0, 1) := by decide +kernel
theorem dX5_fix_53 : decode cX5_fix 53 = .ok (.getfield 13, 3) := by decide +kernel
theorem dX5_fix_56 : decode cX5_fix 56 = .ok (.iload_n 1, 1) := by decide +kernel
theorem dX5_fix_57 : decode cX5_fix 57 = .ok (.iload_n 2, 1) := by decide +kernel
theorem dX5_fix_58 : decode cX5_fix 58 = .ok (.iastore, 1) := by decide +kernel
theorem dX5_fix_59 : decode cX5_fix 59 = .ok (.aload_n 0, 1) := by decide +kernel
theorem dX5_fix_60 : decode cX5_fix 60 = .ok (.iconst 0, 1) := by decide +kernel
theorem dX5_fix_61 : decode cX5_fix 61 = .ok (.putfield 61, 3) := by decide +kernel
theorem dX5_fix_64 : decode cX5_fix 64 = .ok (.return_, 1) := by decide +kernel
set_option maxRecDepth 20000 in
theorem ggX5_fixed_X5_isVertex : GoodIn wsX5_fixed wsX5_isVertex := goodIn_r _ [7, 8, 9, 10, 11, 12, 13, 14, 15, 16, 17, 18, 19, 20, 21, 22, 23, 24] (by decide +kernel) (by decide +kernel)
set_option maxRecDepth 20000 in
theorem gX5_fixed_X5_isVertex : GoodIn wsX5_fixed (wsV RX5 65 RX5 yX5_isVertex wsX5_isVertex) := goodIn_app (goodIn_of _ (by decide +kernel)) ggX5_fixed_X5_isVertex
theorem dX5_fixed_0 : decode cX5_fixed 0 = .ok (.aload_n 0, 1) := by decide +kernel
theorem dX5_fixed_1 : decode cX5_fixed 1 = .ok (.aload_n 0, 1) := by decide +kernel
theorem dX5_fixed_2 : decode cX5_fixed 2 = .ok (.iload_n 1, 1) := by decide +kernel
theorem dX5_fixed_3 : decode cX5_fixed 3 = .ok (.invokevirtual 65, 3) := by decide +kernel
theorem dX5_fixed_6 : decode cX5_fixed 6 = .ok (.ifCond .eq 7, 3) := by decide +kernel
theorem dX5_fixed_9 : decode cX5_fixed 9 = .ok (.iconst 0, 1) := by decide +kernel
theorem dX5_fixed_10 : decode cX5_fixed 10 = .ok (.goto 4, 3) := by decide +kernel
theorem dX5_fixed_13 : decode cX5_fixed 13 = .ok (.iconst 1, 1) := by decide +kernel
theorem dX5_fixed_14 : decode cX5_fixed 14 = .ok (.putfield 47, 3) := by decide +kernel
theorem dX5_fixed_17 : decode cX5_fixed 17 = .ok (.aload_n 0, 1) := by decide +kernel
theorem dX5_fixed_18 : decode cX5_fixed 18 = .ok (.getfield 47, 3) := by decide +kernel
theorem dX5_fixed_21 : decode cX5_fixed 21 = .ok (.ifCond .le 7, 3) := by decide +kernel
theorem dX5_fixed_24 : decode cX5_fixed 24 = .ok (.iconst 0, 1) := by decide +kernel
theorem dX5_fixed_25 : decode cX5_fixed 25 = .ok (.goto 9, 3) := by decide +kernel
theorem dX5_fixed_28 : decode cX5_fixed 28 = .ok (.aload_n 0, 1) := by decide +kernel
theorem dX5_fixed_29 : decode cX5_fixed 29 = .ok (.getfield 13, 3) := by decide +kernel
theorem dX5_fixed_32 : decode cX5_fixed 32 = .ok (.iload_n 1, 1) := by decide +kernel
theorem dX5_fixed_33 : decode cX5_fixed 33 = .ok (.iaload, 1) := by decide +kernel
theorem dX5_fixed_34 : decode cX5_fixed 34 = .ok (.ireturn, 1) := by decide +kernel
set_option maxRecDepth 20000 in
theorem ggX5_refuses_X5_isVertex : GoodIn wsX5_refuses wsX5_isVertex := goodIn_r _ [6, 7, 19, 20, 21, 22, 23, 24, 25, 26, 27, 28, 29, 30, 31, 32, 33, 34] (by decide +kernel) (by decide +kernel)
set_option maxRecDepth 20000 in
theorem gX5_refuses_X5_isVertex : GoodIn wsX5_refuses (wsV RX5 65 RX5 yX5_isVertex wsX5_isVertex) := goodIn_app (goodIn_of _ (by decide +kernel)) ggX5_refuses_X5_isVertex
set_option maxRecDepth 20000 in
theorem ggX5_refuses_X5_isComplete : GoodIn wsX5_refuses wsX5_isComplete := goodIn_r _ [11, 7, 12, 13, 14, 15, 5, 16, 17, 18, 19, 20, 21, 22, 23, 24, 25, 26, 27, 28, 29, 30, 31, 32, 33, 34] (by decide +kernel) (by decide +kernel)
set_option maxRecDepth 20000 in
theorem gX5_refuses_X5_isComplete : GoodIn wsX5_refuses (wsV RX5 69 RX5 yX5_isComplete wsX5_isComplete) := goodIn_app (goodIn_of _ (by decide +kernel)) ggX5_refuses_X5_isComplete
theorem dX5_refuses_0 : decode cX5_refuses 0 = .ok (.aload_n 0, 1) := by decide +kernel
theorem dX5_refuses_1 : decode cX5_refuses 1 = .ok (.aload_n 0, 1) := by decide +kernel
theorem dX5_refuses_2 : decode cX5_refuses 2 = .ok (.iload_n 1, 1) := by decide +kernel
theorem dX5_refuses_3 : decode cX5_refuses 3 = .ok (.invokevirtual 65, 3) := by decide +kernel
theorem dX5_refuses_6 : decode cX5_refuses 6 = .ok (.ifCond .ne 7, 3) := by decide +kernel
theorem dX5_refuses_9 : decode cX5_refuses 9 = .ok (.iconst 1, 1) := by decide +kernel
theorem dX5_refuses_10 : decode cX5_refuses 10 = .ok (.goto 15, 3) := by decide +kernel
theorem dX5_refuses_13 : decode cX5_refuses 13 = .ok (.aload_n 0, 1) := by decide +kernel
theorem dX5_refuses_14 : decode cX5_refuses 14 = .ok (.invokevirtual 69, 3) := by decide +kernel
theorem dX5_refuses_17 : decode cX5_refuses 17 = .ok (.ifCond .eq 7, 3) := by decide +kernel
theorem dX5_refuses_20 : decode cX5_refuses 20 = .ok (.iconst 0, 1) := by decide +kernel
theorem dX5_refuses_21 : decode cX5_refuses 21 = .ok (.goto 4, 3) := by decide +kernel
theorem dX5_refuses_24 : decode cX5_refuses 24 = .ok (.iconst 2, 1) := by decide +kernel
theorem dX5_refuses_25 : decode cX5_refuses 25 = .ok (.putfield 47, 3) := by decide +kernel
theorem dX5_refuses_28 : decode cX5_refuses 28 = .ok (.aload_n 0, 1) := by decide +kernel
theorem dX5_refuses_29 : decode cX5_refuses 29 = .ok (.getfield 47, 3) := by decide +kernel
theorem dX5_refuses_32 : decode cX5_refuses 32 = .ok (.ifCond .le 7, 3) := by decide +kernel
theorem dX5_refuses_35 : decode cX5_refuses 35 = .ok (.iconst 1, 1) := by decide +kernel
theorem dX5_refuses_36 : decode cX5_refuses 36 = .ok (.goto 4, 3) := by decide +kernel
theorem dX5_refuses_39 : decode cX5_refuses 39 = .ok (.iconst 0, 1) := by decide +kernel
theorem dX5_refuses_40 : decode cX5_refuses 40 = .ok (.ireturn, 1) := by decide +kernel
set_option maxRecDepth 20000 in
theorem ggX5_findNeeds_X5_need : GoodIn wsX5_findNeeds wsX5_need := goodIn_r _ [11, 12, 1, 4, 13, 6, 2, 14, 15, 16, 10, 17, 18, 19, 20, 21, 22, 23, 24, 25, 26, 27, 28, 29, 30, 31, 32, 33, 34, 35] (by decide +kernel) (by decide +kernel)
set_option maxRecDepth 20000 in
theorem gX5_findNeeds_X5_need : GoodIn wsX5_findNeeds (wsV RX5 73 RX5 yX5_need wsX5_need) := goodIn_app (goodIn_of _ (by decide +kernel)) ggX5_findNeeds_X5_need
theorem dX5_findNeeds_0 : decode cX5_findNeeds 0 = .ok (.iconst 0, 1) := by decide +kernel
theorem dX5_findNeeds_1 : decode cX5_findNeeds 1 = .ok (.istore 4, 2) := by decide +kernel
theorem dX5_findNeeds_3 : decode cX5_findNeeds 3 = .ok (.iconst 0, 1) := by decide +kernel
theorem dX5_findNeeds_4 : decode cX5_findNeeds 4 = .ok (.istore 5, 2) := by decide +kernel
theorem dX5_findNeeds_6 : decode cX5_findNeeds 6 = .ok (.iload 5, 2) := by decide +kernel
theorem dX5_findNeeds_8 : decode cX5_findNeeds 8 = .ok (.aload_n 0, 1) := by decide +kernel
theorem dX5_findNeeds_9 : decode cX5_findNeeds 9 = .ok (.getfield 54, 3) := by decide +kernel
theorem dX5_findNeeds_12 : decode cX5_findNeeds 12 = .ok (.if_icmp .ge 45, 3) := by decide +kernel
theorem dX5_findNeeds_15 : decode cX5_findNeeds 15 = .ok (.iload_n 1, 1) := by decide +kernel
theorem dX5_findNeeds_16 : decode cX5_findNeeds 16 = .ok (.aload_n 0, 1) := by decide +kernel
theorem dX5_findNeeds_17 : decode cX5_findNeeds 17 = .ok (.getfield 22, 3) := by decide +kernel
theorem dX5_findNeeds_20 : decode cX5_findNeeds 20 = .ok (.iload 5, 2) := by decide +kernel
theorem dX5_findNeeds_22 : decode cX5_findNeeds 22 = .ok (.iaload, 1) := by decide +kernel
theorem dX5_findNeeds_23 : decode cX5_findNeeds 23 = .ok (.imul, 1) := by decide +kernel
theorem dX5_findNeeds_24 : decode cX5_findNeeds 24 = .ok (.iload_n 2, 1) := by decide +kernel
theorem dX5_findNeeds_25 : decode cX5_findNeeds 25 = .ok (.isub, 1) := by decide +kernel
theorem dX5_findNeeds_26 : decode cX5_findNeeds 26 = .ok (.istore 6, 2) := by decide +kernel
theorem dX5_findNeeds_28 : decode cX5_findNeeds 28 = .ok (.iload 6, 2) := by decide +kernel
theorem dX5_findNeeds_30 : decode cX5_findNeeds 30 = .ok (.ifCond .ge 17, 3) := by decide +kernel
theorem dX5_findNeeds_33 : decode cX5_findNeeds 33 = .ok (.iload 6, 2) := by decide +kernel
theorem dX5_findNeeds_35 : decode cX5_findNeeds 35 = .ok (.ineg, 1) := by decide +kernel
theorem dX5_findNeeds_36 : decode cX5_findNeeds 36 = .ok (.iload 4, 2) := by decide +kernel
theorem dX5_findNeeds_38 : decode cX5_findNeeds 38 = .ok (.if_icmp .le 9, 3) := by decide +kernel
theorem dX5_findNeeds_41 : decode cX5_findNeeds 41 = .ok (.iload 6, 2) := by decide +kernel
theorem dX5_findNeeds_43 : decode cX5_findNeeds 43 = .ok (.ineg, 1) := by decide +kernel
theorem dX5_findNeeds_44 : decode cX5_findNeeds 44 = .ok (.goto 5, 3) := by decide +kernel
theorem dX5_findNeeds_47 : decode cX5_findNeeds 47 = .ok (.iload 4, 2) := by decide +kernel
theorem dX5_findNeeds_49 : decode cX5_findNeeds 49 = .ok (.istore 4, 2) := by decide +kernel
theorem dX5_findNeeds_51 : decode cX5_findNeeds 51 = .ok (.iinc 5 1, 3) := by decide +kernel
theorem dX5_findNeeds_54 : decode cX5_findNeeds 54 = .ok (.goto (-48), 3) := by decide +kernel
theorem dX5_findNeeds_57 : decode cX5_findNeeds 57 = .ok (.iconst 0, 1) := by decide +kernel
theorem dX5_findNeeds_58 : decode cX5_findNeeds 58 = .ok (.istore 5, 2) := by decide +kernel
theorem dX5_findNeeds_60 : decode cX5_findNeeds 60 = .ok (.iload 5, 2) := by decide +kernel
theorem dX5_findNeeds_62 : decode cX5_findNeeds 62 = .ok (.aload_n 0, 1) := by decide +kernel
theorem dX5_findNeeds_63 : decode cX5_findNeeds 63 = .ok (.getfield 51, 3) := by decide +kernel
theorem dX5_findNeeds_66 : decode cX5_findNeeds 66 = .ok (.if_icmp .ge 17, 3) := by decide +kernel
theorem dX5_findNeeds_69 : decode cX5_findNeeds 69 = .ok (.aload_n 0, 1) := by decide +kernel
theorem dX5_findNeeds_70 : decode cX5_findNeeds 70 = .ok (.getfield 38, 3) := by decide +kernel
theorem dX5_findNeeds_73 : decode cX5_findNeeds 73 = .ok (.iload 5, 2) := by decide +kernel
theorem dX5_findNeeds_75 : decode cX5_findNeeds 75 = .ok (.iconst 0, 1) := by decide +kernel
theorem dX5_findNeeds_76 : decode cX5_findNeeds 76 = .ok (.iastore, 1) := by decide +kernel
theorem dX5_findNeeds_77 : decode cX5_findNeeds 77 = .ok (.iinc 5 1, 3) := by decide +kernel
theorem dX5_findNeeds_80 : decode cX5_findNeeds 80 = .ok (.goto (-20), 3) := by decide +kernel
theorem dX5_findNeeds_83 : decode cX5_findNeeds 83 = .ok (.iconst 1, 1) := by decide +kernel
theorem dX5_findNeeds_84 : decode cX5_findNeeds 84 = .ok (.istore 5, 2) := by decide +kernel
theorem dX5_findNeeds_86 : decode cX5_findNeeds 86 = .ok (.iload 5, 2) := by decide +kernel
theorem dX5_findNeeds_88 : decode cX5_findNeeds 88 = .ok (.ifCond .eq 125, 3) := by decide +kernel
theorem dX5_findNeeds_91 : decode cX5_findNeeds 91 = .ok (.iconst 0, 1) := by decide +kernel
theorem dX5_findNeeds_92 : decode cX5_findNeeds 92 = .ok (.istore 5, 2) := by decide +kernel
theorem dX5_findNeeds_94 : decode cX5_findNeeds 94 = .ok (.iconst 0, 1) := by decide +kernel
theorem dX5_findNeeds_95 : decode cX5_findNeeds 95 = .ok (.istore 6, 2) := by decide +kernel
theorem dX5_findNeeds_97 : decode cX5_findNeeds 97 = .ok (.iload 6, 2) := by decide +kernel
theorem dX5_findNeeds_99 : decode cX5_findNeeds 99 = .ok (.aload_n 0, 1) := by decide +kernel
theorem dX5_findNeeds_100 : decode cX5_findNeeds 100 = .ok (.getfield 51, 3) := by decide +kernel
theorem dX5_findNeeds_103 : decode cX5_findNeeds 103 = .ok (.if_icmp .ge 25, 3) := by decide +kernel
theorem dX5_findNeeds_106 : decode cX5_findNeeds 106 = .ok (.aload_n 0, 1) := by decide +kernel
theorem dX5_findNeeds_107 : decode cX5_findNeeds 107 = .ok (.getfield 41, 3) := by decide +kernel
theorem dX5_findNeeds_110 : decode cX5_findNeeds 110 = .ok (.iload 6, 2) := by decide +kernel
theorem dX5_findNeeds_112 : decode cX5_findNeeds 112 = .ok (.aload_n 0, 1) := by decide +kernel
theorem dX5_findNeeds_113 : decode cX5_findNeeds 113 = .ok (.iload 6, 2) := by decide +kernel
theorem dX5_findNeeds_115 : decode cX5_findNeeds 115 = .ok (.iload_n 1, 1) := by decide +kernel
theorem dX5_findNeeds_116 : decode cX5_findNeeds 116 = .ok (.iload_n 2, 1) := by decide +kernel
theorem dX5_findNeeds_117 : decode cX5_findNeeds 117 = .ok (.iload_n 3, 1) := by decide +kernel
theorem dX5_findNeeds_118 : decode cX5_findNeeds 118 = .ok (.invokevirtual 73, 3) := by decide +kernel
theorem dX5_findNeeds_121 : decode cX5_findNeeds 121 = .ok (.iastore, 1) := by decide +kernel
theorem dX5_findNeeds_122 : decode cX5_findNeeds 122 = .ok (.iinc 6 1, 3) := by decide +kernel
theorem dX5_findNeeds_125 : decode cX5_findNeeds 125 = .ok (.goto (-28), 3) := by decide +kernel
theorem dX5_findNeeds_128 : decode cX5_findNeeds 128 = .ok (.iconst 0, 1) := by decide +kernel
theorem dX5_findNeeds_129 : decode cX5_findNeeds 129 = .ok (.istore 6, 2) := by decide +kernel
theorem dX5_findNeeds_131 : decode cX5_findNeeds 131 = .ok (.iload 6, 2) := by decide +kernel
theorem dX5_findNeeds_133 : decode cX5_findNeeds 133 = .ok (.aload_n 0, 1) := by decide +kernel
theorem dX5_findNeeds_134 : decode cX5_findNeeds 134 = .ok (.getfield 51, 3) := by decide +kernel
theorem dX5_findNeeds_137 : decode cX5_findNeeds 137 = .ok (.if_icmp .ge 73, 3) := by decide +kernel
theorem dX5_findNeeds_140 : decode cX5_findNeeds 140 = .ok (.aload_n 0, 1) := by decide +kernel
theorem dX5_findNeeds_141 : decode cX5_findNeeds 141 = .ok (.getfield 41, 3) := by decide +kernel
theorem dX5_findNeeds_144 : decode cX5_findNeeds 144 = .ok (.iload 6, 2) := by decide +kernel
theorem dX5_findNeeds_146 : decode cX5_findNeeds 146 = .ok (.iaload, 1) := by decide +kernel
theorem dX5_findNeeds_147 : decode cX5_findNeeds 147 = .ok (.aload_n 0, 1) := by decide +kernel
theorem dX5_findNeeds_148 : decode cX5_findNeeds 148 = .ok (.getfield 51, 3) := by decide +kernel
theorem dX5_findNeeds_151 : decode cX5_findNeeds 151 = .ok (.iload 4, 2) := by decide +kernel
theorem dX5_findNeeds_153 : decode cX5_findNeeds 153 = .ok (.imul, 1) := by decide +kernel
theorem dX5_findNeeds_154 : decode cX5_findNeeds 154 = .ok (.if_icmp .le 8, 3) := by decide +kernel
theorem dX5_findNeeds_157 : decode cX5_findNeeds 157 = .ok (.ldc 77, 2) := by decide +kernel
theorem dX5_findNeeds_159 : decode cX5_findNeeds 159 = .ok (.goto 10, 3) := by decide +kernel
theorem dX5_findNeeds_162 : decode cX5_findNeeds 162 = .ok (.aload_n 0, 1) := by decide +kernel
theorem dX5_findNeeds_163 : decode cX5_findNeeds 163 = .ok (.getfield 41, 3) := by decide +kernel
theorem dX5_findNeeds_166 : decode cX5_findNeeds 166 = .ok (.iload 6, 2) := by decide +kernel
theorem dX5_findNeeds_168 : decode cX5_findNeeds 168 = .ok (.iaload, 1) := by decide +kernel
theorem dX5_findNeeds_169 : decode cX5_findNeeds 169 = .ok (.istore 7, 2) := by decide +kernel
theorem dX5_findNeeds_171 : decode cX5_findNeeds 171 = .ok (.iload 5, 2) := by decide +kernel
theorem dX5_findNeeds_173 : decode cX5_findNeeds 173 = .ok (.ifCond .ne 15, 3) := by decide +kernel
theorem dX5_findNeeds_176 : decode cX5_findNeeds 176 = .ok (.iload 7, 2) := by decide +kernel
theorem dX5_findNeeds_178 : decode cX5_findNeeds 178 = .ok (.aload_n 0, 1) := by decide +kernel
theorem dX5_findNeeds_179 : decode cX5_findNeeds 179 = .ok (.getfield 38, 3) := by decide +kernel
theorem dX5_findNeeds_182 : decode cX5_findNeeds 182 = .ok (.iload 6, 2) := by decide +kernel
theorem dX5_findNeeds_184 : decode cX5_findNeeds 184 = .ok (.iaload, 1) := by decide +kernel
theorem dX5_findNeeds_185 : decode cX5_findNeeds 185 = .ok (.if_icmp .eq 7, 3) := by decide +kernel
theorem dX5_findNeeds_188 : decode cX5_findNeeds 188 = .ok (.iconst 1, 1) := by decide +kernel
theorem dX5_findNeeds_189 : decode cX5_findNeeds 189 = .ok (.goto 4, 3) := by decide +kernel
theorem dX5_findNeeds_192 : decode cX5_findNeeds 192 = .ok (.iconst 0, 1) := by decide +kernel
theorem dX5_findNeeds_193 : decode cX5_findNeeds 193 = .ok (.istore 5, 2) := by decide +kernel
theorem dX5_findNeeds_195 : decode cX5_findNeeds 195 = .ok (.aload_n 0, 1) := by decide +kernel
theorem dX5_findNeeds_196 : decode cX5_findNeeds 196 = .ok (.getfield 38, 3) := by decide +kernel
theorem dX5_findNeeds_199 : decode cX5_findNeeds 199 = .ok (.iload 6, 2) := by decide +kernel
theorem dX5_findNeeds_201 : decode cX5_findNeeds 201 = .ok (.iload 7, 2) := by decide +kernel
theorem dX5_findNeeds_203 : decode cX5_findNeeds 203 = .ok (.iastore, 1) := by decide +kernel
theorem dX5_findNeeds_204 : decode cX5_findNeeds 204 = .ok (.iinc 6 1, 3) := by decide +kernel
theorem dX5_findNeeds_207 : decode cX5_findNeeds 207 = .ok (.goto (-76), 3) := by decide +kernel
theorem dX5_findNeeds_210 : decode cX5_findNeeds 210 = .ok (.goto (-124), 3) := by decide +kernel
theorem dX5_findNeeds_213 : decode cX5_findNeeds 213 = .ok (.return_, 1) := by decide +kernel
set_option maxRecDepth 20000 in
theorem ggX5_need_X5_leads : GoodIn wsX5_need wsX5_leads := goodIn_r _ [11, 12, 13, 14, 15, 16, 17, 18, 19, 20, 21, 22, 23, 24, 25, 26, 27, 28, 29] (by decide +kernel) (by decide +kernel)
set_option maxRecDepth 20000 in
theorem gX5_need_X5_leads : GoodIn wsX5_need (wsV RX5 57 RX5 yX5_leads wsX5_leads) := goodIn_app (goodIn_of _ (by decide +kernel)) ggX5_need_X5_leads
theorem dX5_need_0 : decode cX5_need 0 = .ok (.aload_n 0, 1) := by decide +kernel
theorem dX5_need_1 : decode cX5_need 1 = .ok (.getfield 7, 3) := by decide +kernel
theorem dX5_need_4 : decode cX5_need 4 = .ok (.iload_n 1, 1) := by decide +kernel
theorem dX5_need_5 : decode cX5_need 5 = .ok (.iaload, 1) := by decide +kernel
theorem dX5_need_6 : decode cX5_need 6 = .ok (.iload 4, 2) := by decide +kernel
theorem dX5_need_8 : decode cX5_need 8 = .ok (.if_icmp .ne 7, 3) := by decide +kernel
theorem dX5_need_11 : decode cX5_need 11 = .ok (.iconst 1, 1) := by decide +kernel
theorem dX5_need_12 : decode cX5_need 12 = .ok (.goto 4, 3) := by decide +kernel
theorem dX5_need_15 : decode cX5_need 15 = .ok (.iconst 0, 1) := by decide +kernel
theorem dX5_need_16 : decode cX5_need 16 = .ok (.istore 5, 2) := by decide +kernel
theorem dX5_need_18 : decode cX5_need 18 = .ok (.iconst (-1), 1) := by decide +kernel
theorem dX5_need_19 : decode cX5_need 19 = .ok (.istore 6, 2) := by decide +kernel
theorem dX5_need_21 : decode cX5_need 21 = .ok (.iconst 0, 1) := by decide +kernel
theorem dX5_need_22 : decode cX5_need 22 = .ok (.istore 7, 2) := by decide +kernel
theorem dX5_need_24 : decode cX5_need 24 = .ok (.iload 7, 2) := by decide +kernel
theorem dX5_need_26 : decode cX5_need 26 = .ok (.aload_n 0, 1) := by decide +kernel
theorem dX5_need_27 : decode cX5_need 27 = .ok (.getfield 54, 3) := by decide +kernel
theorem dX5_need_30 : decode cX5_need 30 = .ok (.if_icmp .ge 119, 3) := by decide +kernel
theorem dX5_need_33 : decode cX5_need 33 = .ok (.aload_n 0, 1) := by decide +kernel
theorem dX5_need_34 : decode cX5_need 34 = .ok (.iload 7, 2) := by decide +kernel
theorem dX5_need_36 : decode cX5_need 36 = .ok (.iload_n 1, 1) := by decide +kernel
theorem dX5_need_37 : decode cX5_need 37 = .ok (.invokevirtual 57, 3) := by decide +kernel
theorem dX5_need_40 : decode cX5_need 40 = .ok (.ifCond .ne 6, 3) := by decide +kernel
theorem dX5_need_43 : decode cX5_need 43 = .ok (.goto 100, 3) := by decide +kernel
theorem dX5_need_46 : decode cX5_need 46 = .ok (.aload_n 0, 1) := by decide +kernel
theorem dX5_need_47 : decode cX5_need 47 = .ok (.getfield 38, 3) := by decide +kernel
theorem dX5_need_50 : decode cX5_need 50 = .ok (.aload_n 0, 1) := by decide +kernel
theorem dX5_need_51 : decode cX5_need 51 = .ok (.getfield 19, 3) := by decide +kernel
theorem dX5_need_54 : decode cX5_need 54 = .ok (.iload 7, 2) := by decide +kernel
theorem dX5_need_56 : decode cX5_need 56 = .ok (.iaload, 1) := by decide +kernel
theorem dX5_need_57 : decode cX5_need 57 = .ok (.iaload, 1) := by decide +kernel
theorem dX5_need_58 : decode cX5_need 58 = .ok (.ldc 77, 2) := by decide +kernel
theorem dX5_need_60 : decode cX5_need 60 = .ok (.if_icmp .ne 8, 3) := by decide +kernel
theorem dX5_need_63 : decode cX5_need 63 = .ok (.ldc 77, 2) := by decide +kernel
theorem dX5_need_65 : decode cX5_need 65 = .ok (.goto 27, 3) := by decide +kernel
theorem dX5_need_68 : decode cX5_need 68 = .ok (.aload_n 0, 1) := by decide +kernel
theorem dX5_need_69 : decode cX5_need 69 = .ok (.getfield 38, 3) := by decide +kernel
theorem dX5_need_72 : decode cX5_need 72 = .ok (.aload_n 0, 1) := by decide +kernel
theorem dX5_need_73 : decode cX5_need 73 = .ok (.getfield 19, 3) := by decide +kernel
theorem dX5_need_76 : decode cX5_need 76 = .ok (.iload 7, 2) := by decide +kernel
theorem dX5_need_78 : decode cX5_need 78 = .ok (.iaload, 1) := by decide +kernel
theorem dX5_need_79 : decode cX5_need 79 = .ok (.iaload, 1) := by decide +kernel
theorem dX5_need_80 : decode cX5_need 80 = .ok (.iload_n 2, 1) := by decide +kernel
theorem dX5_need_81 : decode cX5_need 81 = .ok (.aload_n 0, 1) := by decide +kernel
theorem dX5_need_82 : decode cX5_need 82 = .ok (.getfield 22, 3) := by decide +kernel
theorem dX5_need_85 : decode cX5_need 85 = .ok (.iload 7, 2) := by decide +kernel
theorem dX5_need_87 : decode cX5_need 87 = .ok (.iaload, 1) := by decide +kernel
theorem dX5_need_88 : decode cX5_need 88 = .ok (.imul, 1) := by decide +kernel
theorem dX5_need_89 : decode cX5_need 89 = .ok (.iload_n 3, 1) := by decide +kernel
theorem dX5_need_90 : decode cX5_need 90 = .ok (.isub, 1) := by decide +kernel
theorem dX5_need_91 : decode cX5_need 91 = .ok (.isub, 1) := by decide +kernel
theorem dX5_need_92 : decode cX5_need 92 = .ok (.istore 8, 2) := by decide +kernel
theorem dX5_need_94 : decode cX5_need 94 = .ok (.iload 8, 2) := by decide +kernel
theorem dX5_need_96 : decode cX5_need 96 = .ok (.ifCond .ge 7, 3) := by decide +kernel
theorem dX5_need_99 : decode cX5_need 99 = .ok (.iconst 0, 1) := by decide +kernel
theorem dX5_need_100 : decode cX5_need 100 = .ok (.goto 5, 3) := by decide +kernel
theorem dX5_need_103 : decode cX5_need 103 = .ok (.iload 8, 2) := by decide +kernel
theorem dX5_need_105 : decode cX5_need 105 = .ok (.istore 8, 2) := by decide +kernel
theorem dX5_need_107 : decode cX5_need 107 = .ok (.iload 6, 2) := by decide +kernel
theorem dX5_need_109 : decode cX5_need 109 = .ok (.ifCond .lt 25, 3) := by decide +kernel
theorem dX5_need_112 : decode cX5_need 112 = .ok (.iload 5, 2) := by decide +kernel
theorem dX5_need_114 : decode cX5_need 114 = .ok (.ifCond .eq 13, 3) := by decide +kernel
theorem dX5_need_117 : decode cX5_need 117 = .ok (.iload 8, 2) := by decide +kernel
theorem dX5_need_119 : decode cX5_need 119 = .ok (.iload 6, 2) := by decide +kernel
theorem dX5_need_121 : decode cX5_need 121 = .ok (.if_icmp .ge 18, 3) := by decide +kernel
theorem dX5_need_124 : decode cX5_need 124 = .ok (.goto 10, 3) := by decide +kernel
theorem dX5_need_127 : decode cX5_need 127 = .ok (.iload 8, 2) := by decide +kernel
theorem dX5_need_129 : decode cX5_need 129 = .ok (.iload 6, 2) := by decide +kernel
theorem dX5_need_131 : decode cX5_need 131 = .ok (.if_icmp .le 8, 3) := by decide +kernel
theorem dX5_need_134 : decode cX5_need 134 = .ok (.iload 8, 2) := by decide +kernel
theorem dX5_need_136 : decode cX5_need 136 = .ok (.goto 5, 3) := by decide +kernel
theorem dX5_need_139 : decode cX5_need 139 = .ok (.iload 6, 2) := by decide +kernel
theorem dX5_need_141 : decode cX5_need 141 = .ok (.istore 6, 2) := by decide +kernel
theorem dX5_need_143 : decode cX5_need 143 = .ok (.iinc 7 1, 3) := by decide +kernel
theorem dX5_need_146 : decode cX5_need 146 = .ok (.goto (-122), 3) := by decide +kernel
theorem dX5_need_149 : decode cX5_need 149 = .ok (.iload 6, 2) := by decide +kernel
theorem dX5_need_151 : decode cX5_need 151 = .ok (.ireturn, 1) := by decide +kernel
set_option maxRecDepth 20000 in
theorem ggX5_credit_X5_refuses : GoodIn wsX5_credit wsX5_refuses := goodIn_r _ [7, 8, 9, 10, 11, 6, 12, 13, 14, 15, 16, 17, 18, 19, 20, 21, 22, 23, 24, 37, 38, 39, 40, 41, 42, 43, 44, 45, 46, 47, 48, 49, 50, 51, 52] (by decide +kernel) (by decide +kernel)
set_option maxRecDepth 20000 in
theorem gX5_credit_X5_refuses : GoodIn wsX5_credit (wsV RX5 78 RX5 yX5_refuses wsX5_refuses) := goodIn_app (goodIn_of _ (by decide +kernel)) ggX5_credit_X5_refuses
set_option maxRecDepth 20000 in
theorem ggX5_credit_X5_findNeeds : GoodIn wsX5_credit wsX5_findNeeds := goodIn_r _ [28, 18, 29, 13, 1, 30, 2, 31, 32, 33, 6, 34, 35, 36, 19, 20, 21, 22, 23, 24, 37, 38, 39, 40, 41, 42, 43, 44, 45, 46, 47, 48, 49, 50, 51, 52] (by decide +kernel) (by decide +kernel)
set_option maxRecDepth 20000 in
theorem gX5_credit_X5_findNeeds : GoodIn wsX5_credit (wsV RX5 81 RX5 yX5_findNeeds wsX5_findNeeds) := goodIn_app (goodIn_of _ (by decide +kernel)) ggX5_credit_X5_findNeeds
theorem dX5_credit_0 : decode cX5_credit 0 = .ok (.aload_n 0, 1) := by decide +kernel
theorem dX5_credit_1 : decode cX5_credit 1 = .ok (.iload_n 1, 1) := by decide +kernel
theorem dX5_credit_2 : decode cX5_credit 2 = .ok (.invokevirtual 78, 3) := by decide +kernel
theorem dX5_credit_5 : decode cX5_credit 5 = .ok (.ifCond .eq 5, 3) := by decide +kernel
theorem dX5_credit_8 : decode cX5_credit 8 = .ok (.iconst 0, 1) := by decide +kernel
theorem dX5_credit_9 : decode cX5_credit 9 = .ok (.ireturn, 1) := by decide +kernel
theorem dX5_credit_10 : decode cX5_credit 10 = .ok (.aload_n 0, 1) := by decide +kernel
theorem dX5_credit_11 : decode cX5_credit 11 = .ok (.iconst 1, 1) := by decide +kernel
theorem dX5_credit_12 : decode cX5_credit 12 = .ok (.iconst 0, 1) := by decide +kernel
theorem dX5_credit_13 : decode cX5_credit 13 = .ok (.iconst 0, 1) := by decide +kernel
theorem dX5_credit_14 : decode cX5_credit 14 = .ok (.invokevirtual 81, 3) := by decide +kernel
theorem dX5_credit_17 : decode cX5_credit 17 = .ok (.aload_n 0, 1) := by decide +kernel
theorem dX5_credit_18 : decode cX5_credit 18 = .ok (.getfield 38, 3) := by decide +kernel
theorem dX5_credit_21 : decode cX5_credit 21 = .ok (.iload_n 1, 1) := by decide +kernel
theorem dX5_credit_22 : decode cX5_credit 22 = .ok (.iaload, 1) := by decide +kernel
theorem dX5_credit_23 : decode cX5_credit 23 = .ok (.ldc 77, 2) := by decide +kernel
theorem dX5_credit_25 : decode cX5_credit 25 = .ok (.if_icmp .ne 7, 3) := by decide +kernel
theorem dX5_credit_28 : decode cX5_credit 28 = .ok (.iconst (-1), 1) := by decide +kernel
theorem dX5_credit_29 : decode cX5_credit 29 = .ok (.goto 9, 3) := by decide +kernel
theorem dX5_credit_32 : decode cX5_credit 32 = .ok (.aload_n 0, 1) := by decide +kernel
theorem dX5_credit_33 : decode cX5_credit 33 = .ok (.getfield 38, 3) := by decide +kernel
theorem dX5_credit_36 : decode cX5_credit 36 = .ok (.iload_n 1, 1) := by decide +kernel
theorem dX5_credit_37 : decode cX5_credit 37 = .ok (.iaload, 1) := by decide +kernel
theorem dX5_credit_38 : decode cX5_credit 38 = .ok (.ireturn, 1) := by decide +kernel
theorem dX5_common_0 : decode cX5_common 0 = .ok (.iload_n 0, 1) := by decide +kernel
theorem dX5_common_1 : decode cX5_common 1 = .ok (.istore_n 2, 1) := by decide +kernel
theorem dX5_common_2 : decode cX5_common 2 = .ok (.iload_n 1, 1) := by decide +kernel
theorem dX5_common_3 : decode cX5_common 3 = .ok (.istore_n 3, 1) := by decide +kernel
theorem dX5_common_4 : decode cX5_common 4 = .ok (.iload_n 3, 1) := by decide +kernel
theorem dX5_common_5 : decode cX5_common 5 = .ok (.ifCond .eq 16, 3) := by decide +kernel
theorem dX5_common_8 : decode cX5_common 8 = .ok (.iload_n 2, 1) := by decide +kernel
theorem dX5_common_9 : decode cX5_common 9 = .ok (.iload_n 3, 1) := by decide +kernel
theorem dX5_common_10 : decode cX5_common 10 = .ok (.irem, 1) := by decide +kernel
theorem dX5_common_11 : decode cX5_common 11 = .ok (.istore 4, 2) := by decide +kernel
theorem dX5_common_13 : decode cX5_common 13 = .ok (.iload_n 3, 1) := by decide +kernel
theorem dX5_common_14 : decode cX5_common 14 = .ok (.istore_n 2, 1) := by decide +kernel
theorem dX5_common_15 : decode cX5_common 15 = .ok (.iload 4, 2) := by decide +kernel
theorem dX5_common_17 : decode cX5_common 17 = .ok (.istore_n 3, 1) := by decide +kernel
theorem dX5_common_18 : decode cX5_common 18 = .ok (.goto (-14), 3) := by decide +kernel
theorem dX5_common_21 : decode cX5_common 21 = .ok (.iload_n 2, 1) := by decide +kernel
theorem dX5_common_22 : decode cX5_common 22 = .ok (.ireturn, 1) := by decide +kernel
set_option maxRecDepth 20000 in
theorem ggX5_findValues_X5_leads : GoodIn wsX5_findValues wsX5_leads := goodIn_r _ [15, 16, 17, 27, 28, 29, 30, 31, 32, 33, 34, 35, 36, 37, 38, 39, 40, 41, 42] (by decide +kernel) (by decide +kernel)
set_option maxRecDepth 20000 in
theorem gX5_findValues_X5_leads : GoodIn wsX5_findValues (wsV RX5 57 RX5 yX5_leads wsX5_leads) := goodIn_app (goodIn_of _ (by decide +kernel)) ggX5_findValues_X5_leads
set_option maxRecDepth 20000 in
theorem ggX5_findValues_X5_nearest : GoodIn wsX5_findValues wsX5_nearest := goodIn_r _ [21, 5, 22, 23, 24, 25, 14, 26, 27, 28, 29, 30, 31, 32, 33, 34, 35, 36, 37, 38, 39, 40, 41, 42] (by decide +kernel) (by decide +kernel)
set_option maxRecDepth 20000 in
theorem gX5_findValues_X5_nearest : GoodIn wsX5_findValues (wsV RX5 89 RX5 yX5_nearest wsX5_nearest) := goodIn_app (goodIn_of _ (by decide +kernel)) ggX5_findValues_X5_nearest
theorem dX5_findValues_0 : decode cX5_findValues 0 = .ok (.aload_n 0, 1) := by decide +kernel
theorem dX5_findValues_1 : decode cX5_findValues 1 = .ok (.getfield 61, 3) := by decide +kernel
theorem dX5_findValues_4 : decode cX5_findValues 4 = .ok (.ifCond .eq 4, 3) := by decide +kernel
theorem dX5_findValues_7 : decode cX5_findValues 7 = .ok (.return_, 1) := by decide +kernel
theorem dX5_findValues_8 : decode cX5_findValues 8 = .ok (.aload_n 0, 1) := by decide +kernel
theorem dX5_findValues_9 : decode cX5_findValues 9 = .ok (.iconst 1, 1) := by decide +kernel
theorem dX5_findValues_10 : decode cX5_findValues 10 = .ok (.putfield 61, 3) := by decide +kernel
theorem dX5_findValues_13 : decode cX5_findValues 13 = .ok (.aload_n 0, 1) := by decide +kernel
theorem dX5_findValues_14 : decode cX5_findValues 14 = .ok (.getfield 51, 3) := by decide +kernel
theorem dX5_findValues_17 : decode cX5_findValues 17 = .ok (.istore_n 1, 1) := by decide +kernel
theorem dX5_findValues_18 : decode cX5_findValues 18 = .ok (.ldc2_w 85, 3) := by decide +kernel
theorem dX5_findValues_21 : decode cX5_findValues 21 = .ok (.iload_n 1, 1) := by decide +kernel
theorem dX5_findValues_22 : decode cX5_findValues 22 = .ok (.i2l, 1) := by decide +kernel
theorem dX5_findValues_23 : decode cX5_findValues 23 = .ok (.lmul, 1) := by decide +kernel
theorem dX5_findValues_24 : decode cX5_findValues 24 = .ok (.iload_n 1, 1) := by decide +kernel
theorem dX5_findValues_25 : decode cX5_findValues 25 = .ok (.i2l, 1) := by decide +kernel
theorem dX5_findValues_26 : decode cX5_findValues 26 = .ok (.lmul, 1) := by decide +kernel
theorem dX5_findValues_27 : decode cX5_findValues 27 = .ok (.iload_n 1, 1) := by decide +kernel
theorem dX5_findValues_28 : decode cX5_findValues 28 = .ok (.i2l, 1) := by decide +kernel
theorem dX5_findValues_29 : decode cX5_findValues 29 = .ok (.lmul, 1) := by decide +kernel
theorem dX5_findValues_30 : decode cX5_findValues 30 = .ok (.ldc2_w 87, 3) := by decide +kernel
theorem dX5_findValues_33 : decode cX5_findValues 33 = .ok (.lmul, 1) := by decide +kernel
theorem dX5_findValues_34 : decode cX5_findValues 34 = .ok (.lconst 1, 1) := by decide +kernel
theorem dX5_findValues_35 : decode cX5_findValues 35 = .ok (.ladd, 1) := by decide +kernel
theorem dX5_findValues_36 : decode cX5_findValues 36 = .ok (.lstore_n 2, 1) := by decide +kernel
theorem dX5_findValues_37 : decode cX5_findValues 37 = .ok (.iconst 0, 1) := by decide +kernel
theorem dX5_findValues_38 : decode cX5_findValues 38 = .ok (.istore 4, 2) := by decide +kernel
theorem dX5_findValues_40 : decode cX5_findValues 40 = .ok (.iload 4, 2) := by decide +kernel
theorem dX5_findValues_42 : decode cX5_findValues 42 = .ok (.iload_n 1, 1) := by decide +kernel
theorem dX5_findValues_43 : decode cX5_findValues 43 = .ok (.if_icmp .ge 17, 3) := by decide +kernel
theorem dX5_findValues_46 : decode cX5_findValues 46 = .ok (.aload_n 0, 1) := by decide +kernel
theorem dX5_findValues_47 : decode cX5_findValues 47 = .ok (.getfield 31, 3) := by decide +kernel
theorem dX5_findValues_50 : decode cX5_findValues 50 = .ok (.iload 4, 2) := by decide +kernel
theorem dX5_findValues_52 : decode cX5_findValues 52 = .ok (.lconst 0, 1) := by decide +kernel
theorem dX5_findValues_53 : decode cX5_findValues 53 = .ok (.lastore, 1) := by decide +kernel
theorem dX5_findValues_54 : decode cX5_findValues 54 = .ok (.iinc 4 1, 3) := by decide +kernel
theorem dX5_findValues_57 : decode cX5_findValues 57 = .ok (.goto (-17), 3) := by decide +kernel
theorem dX5_findValues_60 : decode cX5_findValues 60 = .ok (.lconst 0, 1) := by decide +kernel
theorem dX5_findValues_61 : decode cX5_findValues 61 = .ok (.lstore 4, 2) := by decide +kernel
theorem dX5_findValues_63 : decode cX5_findValues 63 = .ok (.lload 4, 2) := by decide +kernel
theorem dX5_findValues_65 : decode cX5_findValues 65 = .ok (.lload_n 2, 1) := by decide +kernel
theorem dX5_findValues_66 : decode cX5_findValues 66 = .ok (.lcmp, 1) := by decide +kernel
theorem dX5_findValues_67 : decode cX5_findValues 67 = .ok (.ifCond .ge 167, 3) := by decide +kernel
theorem dX5_findValues_70 : decode cX5_findValues 70 = .ok (.iconst 0, 1) := by decide +kernel
theorem dX5_findValues_71 : decode cX5_findValues 71 = .ok (.istore 6, 2) := by decide +kernel
theorem dX5_findValues_73 : decode cX5_findValues 73 = .ok (.iload 6, 2) := by decide +kernel
theorem dX5_findValues_75 : decode cX5_findValues 75 = .ok (.iload_n 1, 1) := by decide +kernel
theorem dX5_findValues_76 : decode cX5_findValues 76 = .ok (.if_icmp .ge 120, 3) := by decide +kernel
theorem dX5_findValues_79 : decode cX5_findValues 79 = .ok (.iconst 0, 1) := by decide +kernel
theorem dX5_findValues_80 : decode cX5_findValues 80 = .ok (.istore 7, 2) := by decide +kernel
theorem dX5_findValues_82 : decode cX5_findValues 82 = .ok (.lconst 0, 1) := by decide +kernel
theorem dX5_findValues_83 : decode cX5_findValues 83 = .ok (.lstore 8, 2) := by decide +kernel
theorem dX5_findValues_85 : decode cX5_findValues 85 = .ok (.iconst 0, 1) := by decide +kernel
theorem dX5_findValues_86 : decode cX5_findValues 86 = .ok (.istore 10, 2) := by decide +kernel
theorem dX5_findValues_88 : decode cX5_findValues 88 = .ok (.iload 10, 2) := by decide +kernel
theorem dX5_findValues_90 : decode cX5_findValues 90 = .ok (.aload_n 0, 1) := by decide +kernel
theorem dX5_findValues_91 : decode cX5_findValues 91 = .ok (.getfield 54, 3) := by decide +kernel
theorem dX5_findValues_94 : decode cX5_findValues 94 = .ok (.if_icmp .ge 87, 3) := by decide +kernel
theorem dX5_findValues_97 : decode cX5_findValues 97 = .ok (.aload_n 0, 1) := by decide +kernel
theorem dX5_findValues_98 : decode cX5_findValues 98 = .ok (.iload 10, 2) := by decide +kernel
theorem dX5_findValues_100 : decode cX5_findValues 100 = .ok (.iload 6, 2) := by decide +kernel
theorem dX5_findValues_102 : decode cX5_findValues 102 = .ok (.invokevirtual 57, 3) := by decide +kernel
theorem dX5_findValues_105 : decode cX5_findValues 105 = .ok (.ifCond .ne 6, 3) := by decide +kernel
theorem dX5_findValues_108 : decode cX5_findValues 108 = .ok (.goto 67, 3) := by decide +kernel
theorem dX5_findValues_111 : decode cX5_findValues 111 = .ok (.aload_n 0, 1) := by decide +kernel
theorem dX5_findValues_112 : decode cX5_findValues 112 = .ok (.getfield 22, 3) := by decide +kernel
theorem dX5_findValues_115 : decode cX5_findValues 115 = .ok (.iload 10, 2) := by decide +kernel
theorem dX5_findValues_117 : decode cX5_findValues 117 = .ok (.iaload, 1) := by decide +kernel
theorem dX5_findValues_118 : decode cX5_findValues 118 = .ok (.i2l, 1) := by decide +kernel
theorem dX5_findValues_119 : decode cX5_findValues 119 = .ok (.aload_n 0, 1) := by decide +kernel
theorem dX5_findValues_120 : decode cX5_findValues 120 = .ok (.getfield 31, 3) := by decide +kernel
theorem dX5_findValues_123 : decode cX5_findValues 123 = .ok (.aload_n 0, 1) := by decide +kernel
theorem dX5_findValues_124 : decode cX5_findValues 124 = .ok (.getfield 19, 3) := by decide +kernel
theorem dX5_findValues_127 : decode cX5_findValues 127 = .ok (.iload 10, 2) := by decide +kernel
theorem dX5_findValues_129 : decode cX5_findValues 129 = .ok (.iaload, 1) := by decide +kernel
theorem dX5_findValues_130 : decode cX5_findValues 130 = .ok (.laload, 1) := by decide +kernel
theorem dX5_findValues_131 : decode cX5_findValues 131 = .ok (.ladd, 1) := by decide +kernel
theorem dX5_findValues_132 : decode cX5_findValues 132 = .ok (.lstore 11, 2) := by decide +kernel
theorem dX5_findValues_134 : decode cX5_findValues 134 = .ok (.iload 7, 2) := by decide +kernel
theorem dX5_findValues_136 : decode cX5_findValues 136 = .ok (.ifCond .eq 32, 3) := by decide +kernel
theorem dX5_findValues_139 : decode cX5_findValues 139 = .ok (.aload_n 0, 1) := by decide +kernel
theorem dX5_findValues_140 : decode cX5_findValues 140 = .ok (.getfield 7, 3) := by decide +kernel
theorem dX5_findValues_143 : decode cX5_findValues 143 = .ok (.iload 6, 2) := by decide +kernel
theorem dX5_findValues_145 : decode cX5_findValues 145 = .ok (.iaload, 1) := by decide +kernel
theorem dX5_findValues_146 : decode cX5_findValues 146 = .ok (.ifCond .ne 14, 3) := by decide +kernel
theorem dX5_findValues_149 : decode cX5_findValues 149 = .ok (.lload 11, 2) := by decide +kernel
theorem dX5_findValues_151 : decode cX5_findValues 151 = .ok (.lload 8, 2) := by decide +kernel
theorem dX5_findValues_153 : decode cX5_findValues 153 = .ok (.lcmp, 1) := by decide +kernel
theorem dX5_findValues_154 : decode cX5_findValues 154 = .ok (.ifCond .le 18, 3) := by decide +kernel
theorem dX5_findValues_157 : decode cX5_findValues 157 = .ok (.goto 11, 3) := by decide +kernel
theorem dX5_findValues_160 : decode cX5_findValues 160 = .ok (.lload 11, 2) := by decide +kernel
theorem dX5_findValues_162 : decode cX5_findValues 162 = .ok (.lload 8, 2) := by decide +kernel
theorem dX5_findValues_164 : decode cX5_findValues 164 = .ok (.lcmp, 1) := by decide +kernel
theorem dX5_findValues_165 : decode cX5_findValues 165 = .ok (.ifCond .ge 7, 3) := by decide +kernel
theorem dX5_findValues_168 : decode cX5_findValues 168 = .ok (.lload 11, 2) := by decide +kernel
theorem dX5_findValues_170 : decode cX5_findValues 170 = .ok (.lstore 8, 2) := by decide +kernel
theorem dX5_findValues_172 : decode cX5_findValues 172 = .ok (.iconst 1, 1) := by decide +kernel
theorem dX5_findValues_173 : decode cX5_findValues 173 = .ok (.istore 7, 2) := by decide +kernel
theorem dX5_findValues_175 : decode cX5_findValues 175 = .ok (.iinc 10 1, 3) := by decide +kernel
theorem dX5_findValues_178 : decode cX5_findValues 178 = .ok (.goto (-90), 3) := by decide +kernel
theorem dX5_findValues_181 : decode cX5_findValues 181 = .ok (.aload_n 0, 1) := by decide +kernel
theorem dX5_findValues_182 : decode cX5_findValues 182 = .ok (.getfield 35, 3) := by decide +kernel
theorem dX5_findValues_185 : decode cX5_findValues 185 = .ok (.iload 6, 2) := by decide +kernel
theorem dX5_findValues_187 : decode cX5_findValues 187 = .ok (.lload 8, 2) := by decide +kernel
theorem dX5_findValues_189 : decode cX5_findValues 189 = .ok (.lastore, 1) := by decide +kernel
theorem dX5_findValues_190 : decode cX5_findValues 190 = .ok (.iinc 6 1, 3) := by decide +kernel
theorem dX5_findValues_193 : decode cX5_findValues 193 = .ok (.goto (-120), 3) := by decide +kernel
theorem dX5_findValues_196 : decode cX5_findValues 196 = .ok (.iconst 0, 1) := by decide +kernel
theorem dX5_findValues_197 : decode cX5_findValues 197 = .ok (.istore 6, 2) := by decide +kernel
theorem dX5_findValues_199 : decode cX5_findValues 199 = .ok (.iload 6, 2) := by decide +kernel
theorem dX5_findValues_201 : decode cX5_findValues 201 = .ok (.iload_n 1, 1) := by decide +kernel
theorem dX5_findValues_202 : decode cX5_findValues 202 = .ok (.if_icmp .ge 23, 3) := by decide +kernel
theorem dX5_findValues_205 : decode cX5_findValues 205 = .ok (.aload_n 0, 1) := by decide +kernel
theorem dX5_findValues_206 : decode cX5_findValues 206 = .ok (.getfield 31, 3) := by decide +kernel
theorem dX5_findValues_209 : decode cX5_findValues 209 = .ok (.iload 6, 2) := by decide +kernel
theorem dX5_findValues_211 : decode cX5_findValues 211 = .ok (.aload_n 0, 1) := by decide +kernel
theorem dX5_findValues_212 : decode cX5_findValues 212 = .ok (.getfield 35, 3) := by decide +kernel
theorem dX5_findValues_215 : decode cX5_findValues 215 = .ok (.iload 6, 2) := by decide +kernel
theorem dX5_findValues_217 : decode cX5_findValues 217 = .ok (.laload, 1) := by decide +kernel
theorem dX5_findValues_218 : decode cX5_findValues 218 = .ok (.lastore, 1) := by decide +kernel
theorem dX5_findValues_219 : decode cX5_findValues 219 = .ok (.iinc 6 1, 3) := by decide +kernel
theorem dX5_findValues_222 : decode cX5_findValues 222 = .ok (.goto (-23), 3) := by decide +kernel
theorem dX5_findValues_225 : decode cX5_findValues 225 = .ok (.lload 4, 2) := by decide +kernel
theorem dX5_findValues_227 : decode cX5_findValues 227 = .ok (.lconst 1, 1) := by decide +kernel
theorem dX5_findValues_228 : decode cX5_findValues 228 = .ok (.ladd, 1) := by decide +kernel
theorem dX5_findValues_229 : decode cX5_findValues 229 = .ok (.lstore 4, 2) := by decide +kernel
theorem dX5_findValues_231 : decode cX5_findValues 231 = .ok (.goto (-168), 3) := by decide +kernel
theorem dX5_findValues_234 : decode cX5_findValues 234 = .ok (.iconst 0, 1) := by decide +kernel
theorem dX5_findValues_235 : decode cX5_findValues 235 = .ok (.istore 4, 2) := by decide +kernel
theorem dX5_findValues_237 : decode cX5_findValues 237 = .ok (.iload 4, 2) := by decide +kernel
theorem dX5_findValues_239 : decode cX5_findValues 239 = .ok (.iload_n 1, 1) := by decide +kernel
theorem dX5_findValues_240 : decode cX5_findValues 240 = .ok (.if_icmp .ge 17, 3) := by decide +kernel
theorem dX5_findValues_243 : decode cX5_findValues 243 = .ok (.aload_n 0, 1) := by decide +kernel
theorem dX5_findValues_244 : decode cX5_findValues 244 = .ok (.iload 4, 2) := by decide +kernel
theorem dX5_findValues_246 : decode cX5_findValues 246 = .ok (.lload_n 2, 1) := by decide +kernel
theorem dX5_findValues_247 : decode cX5_findValues 247 = .ok (.iload_n 1, 1) := by decide +kernel
theorem dX5_findValues_248 : decode cX5_findValues 248 = .ok (.invokevirtual 89, 3) := by decide +kernel
theorem dX5_findValues_251 : decode cX5_findValues 251 = .ok (.iinc 4 1, 3) := by decide +kernel
theorem dX5_findValues_254 : decode cX5_findValues 254 = .ok (.goto (-17), 3) := by decide +kernel
theorem dX5_findValues_257 : decode cX5_findValues 257 = .ok (.return_, 1) := by decide +kernel
set_option maxRecDepth 20000 in
theorem ggX5_nearest_X5_common : GoodIn wsX5_nearest wsX5_common := goodIn_r _ [7] (by decide +kernel) (by decide +kernel)
set_option maxRecDepth 20000 in
theorem gX5_nearest_X5_common : GoodIn wsX5_nearest (va_wsS RX5 93 yX5_common wsX5_common) := goodIn_app (goodIn_of _ (by decide +kernel)) ggX5_nearest_X5_common
theorem dX5_nearest_0 : decode cX5_nearest 0 = .ok (.lconst 0, 1) := by decide +kernel
theorem dX5_nearest_1 : decode cX5_nearest 1 = .ok (.lstore 5, 2) := by decide +kernel
theorem dX5_nearest_3 : decode cX5_nearest 3 = .ok (.iconst 0, 1) := by decide +kernel
theorem dX5_nearest_4 : decode cX5_nearest 4 = .ok (.istore 7, 2) := by decide +kernel
theorem dX5_nearest_6 : decode cX5_nearest 6 = .ok (.iconst 1, 1) := by decide +kernel
theorem dX5_nearest_7 : decode cX5_nearest 7 = .ok (.istore 8, 2) := by decide +kernel
theorem dX5_nearest_9 : decode cX5_nearest 9 = .ok (.iload 8, 2) := by decide +kernel
theorem dX5_nearest_11 : decode cX5_nearest 11 = .ok (.iload 4, 2) := by decide +kernel
theorem dX5_nearest_13 : decode cX5_nearest 13 = .ok (.if_icmp .gt 143, 3) := by decide +kernel
theorem dX5_nearest_16 : decode cX5_nearest 16 = .ok (.bipush (-9), 2) := by decide +kernel
theorem dX5_nearest_18 : decode cX5_nearest 18 = .ok (.iload 8, 2) := by decide +kernel
theorem dX5_nearest_20 : decode cX5_nearest 20 = .ok (.imul, 1) := by decide +kernel
theorem dX5_nearest_21 : decode cX5_nearest 21 = .ok (.istore 9, 2) := by decide +kernel
theorem dX5_nearest_23 : decode cX5_nearest 23 = .ok (.iload 9, 2) := by decide +kernel
theorem dX5_nearest_25 : decode cX5_nearest 25 = .ok (.bipush 9, 2) := by decide +kernel
theorem dX5_nearest_27 : decode cX5_nearest 27 = .ok (.iload 8, 2) := by decide +kernel
theorem dX5_nearest_29 : decode cX5_nearest 29 = .ok (.imul, 1) := by decide +kernel
theorem dX5_nearest_30 : decode cX5_nearest 30 = .ok (.if_icmp .gt 120, 3) := by decide +kernel
theorem dX5_nearest_33 : decode cX5_nearest 33 = .ok (.iload 9, 2) := by decide +kernel
theorem dX5_nearest_35 : decode cX5_nearest 35 = .ok (.ifCond .ge 9, 3) := by decide +kernel
theorem dX5_nearest_38 : decode cX5_nearest 38 = .ok (.iload 9, 2) := by decide +kernel
theorem dX5_nearest_40 : decode cX5_nearest 40 = .ok (.ineg, 1) := by decide +kernel
theorem dX5_nearest_41 : decode cX5_nearest 41 = .ok (.goto 5, 3) := by decide +kernel
theorem dX5_nearest_44 : decode cX5_nearest 44 = .ok (.iload 9, 2) := by decide +kernel
theorem dX5_nearest_46 : decode cX5_nearest 46 = .ok (.iload 8, 2) := by decide +kernel
theorem dX5_nearest_48 : decode cX5_nearest 48 = .ok (.invokestatic 93, 3) := by decide +kernel
theorem dX5_nearest_51 : decode cX5_nearest 51 = .ok (.iconst 1, 1) := by decide +kernel
theorem dX5_nearest_52 : decode cX5_nearest 52 = .ok (.if_icmp .eq 6, 3) := by decide +kernel
theorem dX5_nearest_55 : decode cX5_nearest 55 = .ok (.goto 89, 3) := by decide +kernel
theorem dX5_nearest_58 : decode cX5_nearest 58 = .ok (.iload 9, 2) := by decide +kernel
theorem dX5_nearest_60 : decode cX5_nearest 60 = .ok (.i2l, 1) := by decide +kernel
theorem dX5_nearest_61 : decode cX5_nearest 61 = .ok (.lload_n 2, 1) := by decide +kernel
theorem dX5_nearest_62 : decode cX5_nearest 62 = .ok (.lmul, 1) := by decide +kernel
theorem dX5_nearest_63 : decode cX5_nearest 63 = .ok (.aload_n 0, 1) := by decide +kernel
theorem dX5_nearest_64 : decode cX5_nearest 64 = .ok (.getfield 31, 3) := by decide +kernel
theorem dX5_nearest_67 : decode cX5_nearest 67 = .ok (.iload_n 1, 1) := by decide +kernel
theorem dX5_nearest_68 : decode cX5_nearest 68 = .ok (.laload, 1) := by decide +kernel
theorem dX5_nearest_69 : decode cX5_nearest 69 = .ok (.iload 8, 2) := by decide +kernel
theorem dX5_nearest_71 : decode cX5_nearest 71 = .ok (.i2l, 1) := by decide +kernel
theorem dX5_nearest_72 : decode cX5_nearest 72 = .ok (.lmul, 1) := by decide +kernel
theorem dX5_nearest_73 : decode cX5_nearest 73 = .ok (.lsub, 1) := by decide +kernel
theorem dX5_nearest_74 : decode cX5_nearest 74 = .ok (.lstore 10, 2) := by decide +kernel
theorem dX5_nearest_76 : decode cX5_nearest 76 = .ok (.lload 10, 2) := by decide +kernel
theorem dX5_nearest_78 : decode cX5_nearest 78 = .ok (.lconst 0, 1) := by decide +kernel
theorem dX5_nearest_79 : decode cX5_nearest 79 = .ok (.lcmp, 1) := by decide +kernel
theorem dX5_nearest_80 : decode cX5_nearest 80 = .ok (.ifCond .ge 9, 3) := by decide +kernel
theorem dX5_nearest_83 : decode cX5_nearest 83 = .ok (.lload 10, 2) := by decide +kernel
theorem dX5_nearest_85 : decode cX5_nearest 85 = .ok (.lneg, 1) := by decide +kernel
theorem dX5_nearest_86 : decode cX5_nearest 86 = .ok (.goto 5, 3) := by decide +kernel
theorem dX5_nearest_89 : decode cX5_nearest 89 = .ok (.lload 10, 2) := by decide +kernel
theorem dX5_nearest_91 : decode cX5_nearest 91 = .ok (.lstore 10, 2) := by decide +kernel
theorem dX5_nearest_93 : decode cX5_nearest 93 = .ok (.iload 7, 2) := by decide +kernel
theorem dX5_nearest_95 : decode cX5_nearest 95 = .ok (.ifCond .eq 26, 3) := by decide +kernel
theorem dX5_nearest_98 : decode cX5_nearest 98 = .ok (.lload 10, 2) := by decide +kernel
theorem dX5_nearest_100 : decode cX5_nearest 100 = .ok (.aload_n 0, 1) := by decide +kernel
theorem dX5_nearest_101 : decode cX5_nearest 101 = .ok (.getfield 28, 3) := by decide +kernel
theorem dX5_nearest_104 : decode cX5_nearest 104 = .ok (.iload_n 1, 1) := by decide +kernel
theorem dX5_nearest_105 : decode cX5_nearest 105 = .ok (.iaload, 1) := by decide +kernel
theorem dX5_nearest_106 : decode cX5_nearest 106 = .ok (.i2l, 1) := by decide +kernel
theorem dX5_nearest_107 : decode cX5_nearest 107 = .ok (.lmul, 1) := by decide +kernel
theorem dX5_nearest_108 : decode cX5_nearest 108 = .ok (.lload 5, 2) := by decide +kernel
theorem dX5_nearest_110 : decode cX5_nearest 110 = .ok (.iload 8, 2) := by decide +kernel
theorem dX5_nearest_112 : decode cX5_nearest 112 = .ok (.i2l, 1) := by decide +kernel
theorem dX5_nearest_113 : decode cX5_nearest 113 = .ok (.lmul, 1) := by decide +kernel
theorem dX5_nearest_114 : decode cX5_nearest 114 = .ok (.lcmp, 1) := by decide +kernel
theorem dX5_nearest_115 : decode cX5_nearest 115 = .ok (.ifCond .lt 6, 3) := by decide +kernel
theorem dX5_nearest_118 : decode cX5_nearest 118 = .ok (.goto 26, 3) := by decide +kernel
theorem dX5_nearest_121 : decode cX5_nearest 121 = .ok (.iconst 1, 1) := by decide +kernel
theorem dX5_nearest_122 : decode cX5_nearest 122 = .ok (.istore 7, 2) := by decide +kernel
theorem dX5_nearest_124 : decode cX5_nearest 124 = .ok (.lload 10, 2) := by decide +kernel
theorem dX5_nearest_126 : decode cX5_nearest 126 = .ok (.lstore 5, 2) := by decide +kernel
theorem dX5_nearest_128 : decode cX5_nearest 128 = .ok (.aload_n 0, 1) := by decide +kernel
theorem dX5_nearest_129 : decode cX5_nearest 129 = .ok (.getfield 25, 3) := by decide +kernel
theorem dX5_nearest_132 : decode cX5_nearest 132 = .ok (.iload_n 1, 1) := by decide +kernel
theorem dX5_nearest_133 : decode cX5_nearest 133 = .ok (.iload 9, 2) := by decide +kernel
theorem dX5_nearest_135 : decode cX5_nearest 135 = .ok (.iastore, 1) := by decide +kernel
theorem dX5_nearest_136 : decode cX5_nearest 136 = .ok (.aload_n 0, 1) := by decide +kernel
theorem dX5_nearest_137 : decode cX5_nearest 137 = .ok (.getfield 28, 3) := by decide +kernel
theorem dX5_nearest_140 : decode cX5_nearest 140 = .ok (.iload_n 1, 1) := by decide +kernel
theorem dX5_nearest_141 : decode cX5_nearest 141 = .ok (.iload 8, 2) := by decide +kernel
theorem dX5_nearest_143 : decode cX5_nearest 143 = .ok (.iastore, 1) := by decide +kernel
theorem dX5_nearest_144 : decode cX5_nearest 144 = .ok (.iinc 9 1, 3) := by decide +kernel
theorem dX5_nearest_147 : decode cX5_nearest 147 = .ok (.goto (-124), 3) := by decide +kernel
theorem dX5_nearest_150 : decode cX5_nearest 150 = .ok (.iinc 8 1, 3) := by decide +kernel
theorem dX5_nearest_153 : decode cX5_nearest 153 = .ok (.goto (-144), 3) := by decide +kernel
theorem dX5_nearest_156 : decode cX5_nearest 156 = .ok (.return_, 1) := by decide +kernel
set_option maxRecDepth 20000 in
theorem ggX5_reaches_X5_isVertex : GoodIn wsX5_reaches wsX5_isVertex := goodIn_r _ [8, 9, 40, 41, 42, 43, 44, 45, 46, 47, 48, 49, 50, 51, 52, 53, 54, 55] (by decide +kernel) (by decide +kernel)
set_option maxRecDepth 20000 in
theorem gX5_reaches_X5_isVertex : GoodIn wsX5_reaches (wsV RX5 65 RX5 yX5_isVertex wsX5_isVertex) := goodIn_app (goodIn_of _ (by decide +kernel)) ggX5_reaches_X5_isVertex
set_option maxRecDepth 20000 in
theorem ggX5_reaches_X5_isComplete : GoodIn wsX5_reaches wsX5_isComplete := goodIn_r _ [13, 9, 14, 15, 16, 17, 7, 18, 19, 20, 40, 41, 42, 43, 44, 45, 46, 47, 48, 49, 50, 51, 52, 53, 54, 55] (by decide +kernel) (by decide +kernel)
set_option maxRecDepth 20000 in
theorem gX5_reaches_X5_isComplete : GoodIn wsX5_reaches (wsV RX5 69 RX5 yX5_isComplete wsX5_isComplete) := goodIn_app (goodIn_of _ (by decide +kernel)) ggX5_reaches_X5_isComplete
set_option maxRecDepth 20000 in
theorem ggX5_reaches_X5_findValues : GoodIn wsX5_reaches wsX5_findValues := goodIn_r _ [24, 25, 9, 26, 27, 28, 14, 29, 30, 31, 32, 15, 16, 17, 7, 18, 19, 20, 33, 34, 35, 36, 3, 2, 37, 38, 39, 40, 41, 42, 43, 44, 45, 46, 47, 48, 49, 50, 51, 52, 53, 54, 55] (by decide +kernel) (by decide +kernel)
set_option maxRecDepth 20000 in
theorem gX5_reaches_X5_findValues : GoodIn wsX5_reaches (wsV RX5 97 RX5 yX5_findValues wsX5_findValues) := goodIn_app (goodIn_of _ (by decide +kernel)) ggX5_reaches_X5_findValues
theorem dX5_reaches_0 : decode cX5_reaches 0 = .ok (.aload_n 0, 1) := by decide +kernel
theorem dX5_reaches_1 : decode cX5_reaches 1 = .ok (.aload_n 0, 1) := by decide +kernel
theorem dX5_reaches_2 : decode cX5_reaches 2 = .ok (.iload_n 1, 1) := by decide +kernel
theorem dX5_reaches_3 : decode cX5_reaches 3 = .ok (.invokevirtual 65, 3) := by decide +kernel
theorem dX5_reaches_6 : decode cX5_reaches 6 = .ok (.ifCond .eq 26, 3) := by decide +kernel
theorem dX5_reaches_9 : decode cX5_reaches 9 = .ok (.iload_n 2, 1) := by decide +kernel
theorem dX5_reaches_10 : decode cX5_reaches 10 = .ok (.bipush (-99), 2) := by decide +kernel
theorem dX5_reaches_12 : decode cX5_reaches 12 = .ok (.if_icmp .lt 20, 3) := by decide +kernel
theorem dX5_reaches_15 : decode cX5_reaches 15 = .ok (.iload_n 2, 1) := by decide +kernel
theorem dX5_reaches_16 : decode cX5_reaches 16 = .ok (.bipush 99, 2) := by decide +kernel
theorem dX5_reaches_18 : decode cX5_reaches 18 = .ok (.if_icmp .gt 14, 3) := by decide +kernel
theorem dX5_reaches_21 : decode cX5_reaches 21 = .ok (.iload_n 3, 1) := by decide +kernel
theorem dX5_reaches_22 : decode cX5_reaches 22 = .ok (.iconst 1, 1) := by decide +kernel
theorem dX5_reaches_23 : decode cX5_reaches 23 = .ok (.if_icmp .lt 9, 3) := by decide +kernel
theorem dX5_reaches_26 : decode cX5_reaches 26 = .ok (.iload_n 3, 1) := by decide +kernel
theorem dX5_reaches_27 : decode cX5_reaches 27 = .ok (.bipush 9, 2) := by decide +kernel
theorem dX5_reaches_29 : decode cX5_reaches 29 = .ok (.if_icmp .le 7, 3) := by decide +kernel
theorem dX5_reaches_32 : decode cX5_reaches 32 = .ok (.iconst 1, 1) := by decide +kernel
theorem dX5_reaches_33 : decode cX5_reaches 33 = .ok (.goto 15, 3) := by decide +kernel
theorem dX5_reaches_36 : decode cX5_reaches 36 = .ok (.aload_n 0, 1) := by decide +kernel
theorem dX5_reaches_37 : decode cX5_reaches 37 = .ok (.invokevirtual 69, 3) := by decide +kernel
theorem dX5_reaches_40 : decode cX5_reaches 40 = .ok (.ifCond .eq 7, 3) := by decide +kernel
theorem dX5_reaches_43 : decode cX5_reaches 43 = .ok (.iconst 0, 1) := by decide +kernel
theorem dX5_reaches_44 : decode cX5_reaches 44 = .ok (.goto 4, 3) := by decide +kernel
theorem dX5_reaches_47 : decode cX5_reaches 47 = .ok (.iconst 2, 1) := by decide +kernel
theorem dX5_reaches_48 : decode cX5_reaches 48 = .ok (.putfield 47, 3) := by decide +kernel
theorem dX5_reaches_51 : decode cX5_reaches 51 = .ok (.aload_n 0, 1) := by decide +kernel
theorem dX5_reaches_52 : decode cX5_reaches 52 = .ok (.getfield 47, 3) := by decide +kernel
theorem dX5_reaches_55 : decode cX5_reaches 55 = .ok (.ifCond .le 5, 3) := by decide +kernel
theorem dX5_reaches_58 : decode cX5_reaches 58 = .ok (.iconst 0, 1) := by decide +kernel
theorem dX5_reaches_59 : decode cX5_reaches 59 = .ok (.ireturn, 1) := by decide +kernel
theorem dX5_reaches_60 : decode cX5_reaches 60 = .ok (.aload_n 0, 1) := by decide +kernel
theorem dX5_reaches_61 : decode cX5_reaches 61 = .ok (.invokevirtual 97, 3) := by decide +kernel
theorem dX5_reaches_64 : decode cX5_reaches 64 = .ok (.aload_n 0, 1) := by decide +kernel
theorem dX5_reaches_65 : decode cX5_reaches 65 = .ok (.getfield 25, 3) := by decide +kernel
theorem dX5_reaches_68 : decode cX5_reaches 68 = .ok (.iload_n 1, 1) := by decide +kernel
theorem dX5_reaches_69 : decode cX5_reaches 69 = .ok (.iaload, 1) := by decide +kernel
theorem dX5_reaches_70 : decode cX5_reaches 70 = .ok (.iload_n 3, 1) := by decide +kernel
theorem dX5_reaches_71 : decode cX5_reaches 71 = .ok (.imul, 1) := by decide +kernel
theorem dX5_reaches_72 : decode cX5_reaches 72 = .ok (.iload_n 2, 1) := by decide +kernel
theorem dX5_reaches_73 : decode cX5_reaches 73 = .ok (.aload_n 0, 1) := by decide +kernel
theorem dX5_reaches_74 : decode cX5_reaches 74 = .ok (.getfield 28, 3) := by decide +kernel
theorem dX5_reaches_77 : decode cX5_reaches 77 = .ok (.iload_n 1, 1) := by decide +kernel
theorem dX5_reaches_78 : decode cX5_reaches 78 = .ok (.iaload, 1) := by decide +kernel
theorem dX5_reaches_79 : decode cX5_reaches 79 = .ok (.imul, 1) := by decide +kernel
theorem dX5_reaches_80 : decode cX5_reaches 80 = .ok (.if_icmp .lt 7, 3) := by decide +kernel
theorem dX5_reaches_83 : decode cX5_reaches 83 = .ok (.iconst 1, 1) := by decide +kernel
theorem dX5_reaches_84 : decode cX5_reaches 84 = .ok (.goto 4, 3) := by decide +kernel
theorem dX5_reaches_87 : decode cX5_reaches 87 = .ok (.iconst 0, 1) := by decide +kernel
theorem dX5_reaches_88 : decode cX5_reaches 88 = .ok (.ireturn, 1) := by decide +kernel
set_option maxRecDepth 20000 in
theorem ggX5_value_X5_refuses : GoodIn wsX5_value wsX5_refuses := goodIn_r _ [7, 8, 9, 10, 11, 6, 12, 13, 14, 15, 16, 17, 18, 19, 20, 21, 22, 23, 24, 44, 45, 46, 47, 48, 49, 50, 51, 52, 53, 54, 55, 56, 57, 58, 59] (by decide +kernel) (by decide +kernel)
set_option maxRecDepth 20000 in
theorem gX5_value_X5_refuses : GoodIn wsX5_value (wsV RX5 78 RX5 yX5_refuses wsX5_refuses) := goodIn_app (goodIn_of _ (by decide +kernel)) ggX5_value_X5_refuses
set_option maxRecDepth 20000 in
theorem ggX5_value_X5_findValues : GoodIn wsX5_value wsX5_findValues := goodIn_r _ [28, 29, 13, 30, 31, 32, 18, 33, 34, 35, 36, 19, 20, 21, 6, 22, 23, 24, 37, 38, 39, 40, 1, 2, 41, 42, 43, 44, 45, 46, 47, 48, 49, 50, 51, 52, 53, 54, 55, 56, 57, 58, 59] (by decide +kernel) (by decide +kernel)
set_option maxRecDepth 20000 in
theorem gX5_value_X5_findValues : GoodIn wsX5_value (wsV RX5 97 RX5 yX5_findValues wsX5_findValues) := goodIn_app (goodIn_of _ (by decide +kernel)) ggX5_value_X5_findValues
theorem dX5_value_0 : decode cX5_value 0 = .ok (.aload_n 0, 1) := by decide +kernel
theorem dX5_value_1 : decode cX5_value 1 = .ok (.iload_n 1, 1) := by decide +kernel
theorem dX5_value_2 : decode cX5_value 2 = .ok (.invokevirtual 78, 3) := by decide +kernel
theorem dX5_value_5 : decode cX5_value 5 = .ok (.ifCond .eq 5, 3) := by decide +kernel
theorem dX5_value_8 : decode cX5_value 8 = .ok (.iconst 0, 1) := by decide +kernel
theorem dX5_value_9 : decode cX5_value 9 = .ok (.ireturn, 1) := by decide +kernel
theorem dX5_value_10 : decode cX5_value 10 = .ok (.aload_n 0, 1) := by decide +kernel
theorem dX5_value_11 : decode cX5_value 11 = .ok (.invokevirtual 97, 3) := by decide +kernel
theorem dX5_value_14 : decode cX5_value 14 = .ok (.iload_n 2, 1) := by decide +kernel
theorem dX5_value_15 : decode cX5_value 15 = .ok (.ifCond .eq 12, 3) := by decide +kernel
theorem dX5_value_18 : decode cX5_value 18 = .ok (.aload_n 0, 1) := by decide +kernel
theorem dX5_value_19 : decode cX5_value 19 = .ok (.getfield 28, 3) := by decide +kernel
theorem dX5_value_22 : decode cX5_value 22 = .ok (.iload_n 1, 1) := by decide +kernel
theorem dX5_value_23 : decode cX5_value 23 = .ok (.iaload, 1) := by decide +kernel
theorem dX5_value_24 : decode cX5_value 24 = .ok (.goto 9, 3) := by decide +kernel
theorem dX5_value_27 : decode cX5_value 27 = .ok (.aload_n 0, 1) := by decide +kernel
theorem dX5_value_28 : decode cX5_value 28 = .ok (.getfield 25, 3) := by decide +kernel
theorem dX5_value_31 : decode cX5_value 31 = .ok (.iload_n 1, 1) := by decide +kernel
theorem dX5_value_32 : decode cX5_value 32 = .ok (.iaload, 1) := by decide +kernel
theorem dX5_value_33 : decode cX5_value 33 = .ok (.ireturn, 1) := by decide +kernel
set_option maxRecDepth 20000 in
theorem ggX5_bestOf_X5_findValues : GoodIn wsX5_bestOf wsX5_findValues := goodIn_r _ [13, 14, 15, 16, 17, 18, 4, 8, 6, 3, 19, 20, 21, 22, 12, 23, 24, 25, 26, 27, 28, 29, 2, 1, 30, 31, 32, 42, 43, 44, 45, 46, 47, 48, 49, 50, 51, 52, 53, 54, 55, 56, 57] (by decide +kernel) (by decide +kernel)
set_option maxRecDepth 20000 in
theorem gX5_bestOf_X5_findValues : GoodIn wsX5_bestOf (wsV RX5 97 RX5 yX5_findValues wsX5_findValues) := goodIn_app (goodIn_of _ (by decide +kernel)) ggX5_bestOf_X5_findValues
set_option maxRecDepth 20000 in
theorem ggX5_bestOf_X5_findNeeds : GoodIn wsX5_bestOf wsX5_findNeeds := goodIn_r _ [36, 4, 8, 15, 5, 37, 7, 38, 39, 40, 12, 41, 3, 6, 20, 21, 22, 23, 24, 25, 42, 43, 44, 45, 46, 47, 48, 49, 50, 51, 52, 53, 54, 55, 56, 57] (by decide +kernel) (by decide +kernel)
set_option maxRecDepth 20000 in
theorem gX5_bestOf_X5_findNeeds : GoodIn wsX5_bestOf (wsV RX5 81 RX5 yX5_findNeeds wsX5_findNeeds) := goodIn_app (goodIn_of _ (by decide +kernel)) ggX5_bestOf_X5_findNeeds
set_option maxRecDepth 20000 in
theorem ggX5_bestOf_X5_leads : GoodIn wsX5_bestOf wsX5_leads := goodIn_r _ [23, 24, 25, 42, 43, 44, 45, 46, 47, 48, 49, 50, 51, 52, 53, 54, 55, 56, 57] (by decide +kernel) (by decide +kernel)
set_option maxRecDepth 20000 in
theorem gX5_bestOf_X5_leads : GoodIn wsX5_bestOf (wsV RX5 57 RX5 yX5_leads wsX5_leads) := goodIn_app (goodIn_of _ (by decide +kernel)) ggX5_bestOf_X5_leads
theorem dX5_bestOf_0 : decode cX5_bestOf 0 = .ok (.aload_n 0, 1) := by decide +kernel
theorem dX5_bestOf_1 : decode cX5_bestOf 1 = .ok (.invokevirtual 97, 3) := by decide +kernel
theorem dX5_bestOf_4 : decode cX5_bestOf 4 = .ok (.aload_n 0, 1) := by decide +kernel
theorem dX5_bestOf_5 : decode cX5_bestOf 5 = .ok (.getfield 25, 3) := by decide +kernel
theorem dX5_bestOf_8 : decode cX5_bestOf 8 = .ok (.iload_n 1, 1) := by decide +kernel
theorem dX5_bestOf_9 : decode cX5_bestOf 9 = .ok (.iaload, 1) := by decide +kernel
theorem dX5_bestOf_10 : decode cX5_bestOf 10 = .ok (.istore_n 2, 1) := by decide +kernel
theorem dX5_bestOf_11 : decode cX5_bestOf 11 = .ok (.aload_n 0, 1) := by decide +kernel
theorem dX5_bestOf_12 : decode cX5_bestOf 12 = .ok (.getfield 28, 3) := by decide +kernel
theorem dX5_bestOf_15 : decode cX5_bestOf 15 = .ok (.iload_n 1, 1) := by decide +kernel
theorem dX5_bestOf_16 : decode cX5_bestOf 16 = .ok (.iaload, 1) := by decide +kernel
theorem dX5_bestOf_17 : decode cX5_bestOf 17 = .ok (.istore_n 3, 1) := by decide +kernel
theorem dX5_bestOf_18 : decode cX5_bestOf 18 = .ok (.aload_n 0, 1) := by decide +kernel
theorem dX5_bestOf_19 : decode cX5_bestOf 19 = .ok (.getfield 7, 3) := by decide +kernel
theorem dX5_bestOf_22 : decode cX5_bestOf 22 = .ok (.iload_n 1, 1) := by decide +kernel
theorem dX5_bestOf_23 : decode cX5_bestOf 23 = .ok (.iaload, 1) := by decide +kernel
theorem dX5_bestOf_24 : decode cX5_bestOf 24 = .ok (.ifCond .ne 7, 3) := by decide +kernel
theorem dX5_bestOf_27 : decode cX5_bestOf 27 = .ok (.iconst 1, 1) := by decide +kernel
theorem dX5_bestOf_28 : decode cX5_bestOf 28 = .ok (.goto 4, 3) := by decide +kernel
theorem dX5_bestOf_31 : decode cX5_bestOf 31 = .ok (.iconst 0, 1) := by decide +kernel
theorem dX5_bestOf_32 : decode cX5_bestOf 32 = .ok (.istore 4, 2) := by decide +kernel
theorem dX5_bestOf_34 : decode cX5_bestOf 34 = .ok (.iload 4, 2) := by decide +kernel
theorem dX5_bestOf_36 : decode cX5_bestOf 36 = .ok (.ifCond .eq 7, 3) := by decide +kernel
theorem dX5_bestOf_39 : decode cX5_bestOf 39 = .ok (.iload_n 3, 1) := by decide +kernel
theorem dX5_bestOf_40 : decode cX5_bestOf 40 = .ok (.goto 5, 3) := by decide +kernel
theorem dX5_bestOf_43 : decode cX5_bestOf 43 = .ok (.iload_n 3, 1) := by decide +kernel
theorem dX5_bestOf_44 : decode cX5_bestOf 44 = .ok (.ineg, 1) := by decide +kernel
theorem dX5_bestOf_45 : decode cX5_bestOf 45 = .ok (.istore 5, 2) := by decide +kernel
theorem dX5_bestOf_47 : decode cX5_bestOf 47 = .ok (.iload 4, 2) := by decide +kernel
theorem dX5_bestOf_49 : decode cX5_bestOf 49 = .ok (.ifCond .eq 7, 3) := by decide +kernel
theorem dX5_bestOf_52 : decode cX5_bestOf 52 = .ok (.iload_n 2, 1) := by decide +kernel
theorem dX5_bestOf_53 : decode cX5_bestOf 53 = .ok (.goto 5, 3) := by decide +kernel
theorem dX5_bestOf_56 : decode cX5_bestOf 56 = .ok (.iload_n 2, 1) := by decide +kernel
theorem dX5_bestOf_57 : decode cX5_bestOf 57 = .ok (.ineg, 1) := by decide +kernel
theorem dX5_bestOf_58 : decode cX5_bestOf 58 = .ok (.istore 6, 2) := by decide +kernel
theorem dX5_bestOf_60 : decode cX5_bestOf 60 = .ok (.aload_n 0, 1) := by decide +kernel
theorem dX5_bestOf_61 : decode cX5_bestOf 61 = .ok (.iload 5, 2) := by decide +kernel
theorem dX5_bestOf_63 : decode cX5_bestOf 63 = .ok (.iload 6, 2) := by decide +kernel
theorem dX5_bestOf_65 : decode cX5_bestOf 65 = .ok (.iload 4, 2) := by decide +kernel
theorem dX5_bestOf_67 : decode cX5_bestOf 67 = .ok (.ifCond .eq 7, 3) := by decide +kernel
theorem dX5_bestOf_70 : decode cX5_bestOf 70 = .ok (.iconst 0, 1) := by decide +kernel
theorem dX5_bestOf_71 : decode cX5_bestOf 71 = .ok (.goto 4, 3) := by decide +kernel
theorem dX5_bestOf_74 : decode cX5_bestOf 74 = .ok (.iconst 1, 1) := by decide +kernel
theorem dX5_bestOf_75 : decode cX5_bestOf 75 = .ok (.invokevirtual 81, 3) := by decide +kernel
theorem dX5_bestOf_78 : decode cX5_bestOf 78 = .ok (.iconst 0, 1) := by decide +kernel
theorem dX5_bestOf_79 : decode cX5_bestOf 79 = .ok (.istore 7, 2) := by decide +kernel
theorem dX5_bestOf_81 : decode cX5_bestOf 81 = .ok (.iload 7, 2) := by decide +kernel
theorem dX5_bestOf_83 : decode cX5_bestOf 83 = .ok (.aload_n 0, 1) := by decide +kernel
theorem dX5_bestOf_84 : decode cX5_bestOf 84 = .ok (.getfield 54, 3) := by decide +kernel
theorem dX5_bestOf_87 : decode cX5_bestOf 87 = .ok (.if_icmp .ge 77, 3) := by decide +kernel
theorem dX5_bestOf_90 : decode cX5_bestOf 90 = .ok (.aload_n 0, 1) := by decide +kernel
theorem dX5_bestOf_91 : decode cX5_bestOf 91 = .ok (.iload 7, 2) := by decide +kernel
theorem dX5_bestOf_93 : decode cX5_bestOf 93 = .ok (.iload_n 1, 1) := by decide +kernel
theorem dX5_bestOf_94 : decode cX5_bestOf 94 = .ok (.invokevirtual 57, 3) := by decide +kernel
theorem dX5_bestOf_97 : decode cX5_bestOf 97 = .ok (.ifCond .eq 61, 3) := by decide +kernel
theorem dX5_bestOf_100 : decode cX5_bestOf 100 = .ok (.aload_n 0, 1) := by decide +kernel
theorem dX5_bestOf_101 : decode cX5_bestOf 101 = .ok (.getfield 38, 3) := by decide +kernel
theorem dX5_bestOf_104 : decode cX5_bestOf 104 = .ok (.aload_n 0, 1) := by decide +kernel
theorem dX5_bestOf_105 : decode cX5_bestOf 105 = .ok (.getfield 19, 3) := by decide +kernel
theorem dX5_bestOf_108 : decode cX5_bestOf 108 = .ok (.iload 7, 2) := by decide +kernel
theorem dX5_bestOf_110 : decode cX5_bestOf 110 = .ok (.iaload, 1) := by decide +kernel
theorem dX5_bestOf_111 : decode cX5_bestOf 111 = .ok (.iaload, 1) := by decide +kernel
theorem dX5_bestOf_112 : decode cX5_bestOf 112 = .ok (.ldc 77, 2) := by decide +kernel
theorem dX5_bestOf_114 : decode cX5_bestOf 114 = .ok (.if_icmp .ne 6, 3) := by decide +kernel
theorem dX5_bestOf_117 : decode cX5_bestOf 117 = .ok (.goto 41, 3) := by decide +kernel
theorem dX5_bestOf_120 : decode cX5_bestOf 120 = .ok (.aload_n 0, 1) := by decide +kernel
theorem dX5_bestOf_121 : decode cX5_bestOf 121 = .ok (.getfield 38, 3) := by decide +kernel
theorem dX5_bestOf_124 : decode cX5_bestOf 124 = .ok (.iload_n 1, 1) := by decide +kernel
theorem dX5_bestOf_125 : decode cX5_bestOf 125 = .ok (.iaload, 1) := by decide +kernel
theorem dX5_bestOf_126 : decode cX5_bestOf 126 = .ok (.iload 5, 2) := by decide +kernel
theorem dX5_bestOf_128 : decode cX5_bestOf 128 = .ok (.aload_n 0, 1) := by decide +kernel
theorem dX5_bestOf_129 : decode cX5_bestOf 129 = .ok (.getfield 22, 3) := by decide +kernel
theorem dX5_bestOf_132 : decode cX5_bestOf 132 = .ok (.iload 7, 2) := by decide +kernel
theorem dX5_bestOf_134 : decode cX5_bestOf 134 = .ok (.iaload, 1) := by decide +kernel
theorem dX5_bestOf_135 : decode cX5_bestOf 135 = .ok (.imul, 1) := by decide +kernel
theorem dX5_bestOf_136 : decode cX5_bestOf 136 = .ok (.iadd, 1) := by decide +kernel
theorem dX5_bestOf_137 : decode cX5_bestOf 137 = .ok (.iload 6, 2) := by decide +kernel
theorem dX5_bestOf_139 : decode cX5_bestOf 139 = .ok (.isub, 1) := by decide +kernel
theorem dX5_bestOf_140 : decode cX5_bestOf 140 = .ok (.aload_n 0, 1) := by decide +kernel
theorem dX5_bestOf_141 : decode cX5_bestOf 141 = .ok (.getfield 38, 3) := by decide +kernel
theorem dX5_bestOf_144 : decode cX5_bestOf 144 = .ok (.aload_n 0, 1) := by decide +kernel
theorem dX5_bestOf_145 : decode cX5_bestOf 145 = .ok (.getfield 19, 3) := by decide +kernel
theorem dX5_bestOf_148 : decode cX5_bestOf 148 = .ok (.iload 7, 2) := by decide +kernel
theorem dX5_bestOf_150 : decode cX5_bestOf 150 = .ok (.iaload, 1) := by decide +kernel
theorem dX5_bestOf_151 : decode cX5_bestOf 151 = .ok (.iaload, 1) := by decide +kernel
theorem dX5_bestOf_152 : decode cX5_bestOf 152 = .ok (.if_icmp .lt 6, 3) := by decide +kernel
theorem dX5_bestOf_155 : decode cX5_bestOf 155 = .ok (.iload 7, 2) := by decide +kernel
theorem dX5_bestOf_157 : decode cX5_bestOf 157 = .ok (.ireturn, 1) := by decide +kernel
theorem dX5_bestOf_158 : decode cX5_bestOf 158 = .ok (.iinc 7 1, 3) := by decide +kernel
theorem dX5_bestOf_161 : decode cX5_bestOf 161 = .ok (.goto (-80), 3) := by decide +kernel
theorem dX5_bestOf_164 : decode cX5_bestOf 164 = .ok (.iconst (-1), 1) := by decide +kernel
theorem dX5_bestOf_165 : decode cX5_bestOf 165 = .ok (.ireturn, 1) := by decide +kernel
set_option maxRecDepth 20000 in
theorem ggX5_best_X5_refuses : GoodIn wsX5_best wsX5_refuses := goodIn_r _ [5, 6, 7, 8, 9, 4, 10, 11, 12, 13, 14, 15, 16, 17, 18, 19, 20, 21, 22, 59, 60, 61, 62, 63, 64, 65, 66, 67, 68, 69, 70, 71, 72, 73, 74] (by decide +kernel) (by decide +kernel)
set_option maxRecDepth 20000 in
theorem gX5_best_X5_refuses : GoodIn wsX5_best (wsV RX5 78 RX5 yX5_refuses wsX5_refuses) := goodIn_app (goodIn_of _ (by decide +kernel)) ggX5_best_X5_refuses
set_option maxRecDepth 20000 in
theorem ggX5_best_X5_bestOf : GoodIn wsX5_best wsX5_bestOf := goodIn_r _ [26, 27, 28, 29, 16, 30, 31, 32, 33, 34, 35, 36, 4, 37, 38, 11, 39, 40, 41, 42, 17, 18, 19, 20, 21, 22, 43, 44, 45, 46, 47, 48, 49, 50, 51, 52, 53, 54, 55, 56, 57, 58, 59, 60, 61, 62, 63, 64, 65, 66, 67, 68, 69, 70, 71, 72, 73, 74] (by decide +kernel) (by decide +kernel)
set_option maxRecDepth 20000 in
theorem gX5_best_X5_bestOf : GoodIn wsX5_best (wsV RX5 100 RX5 yX5_bestOf wsX5_bestOf) := goodIn_app (goodIn_of _ (by decide +kernel)) ggX5_best_X5_bestOf
theorem dX5_best_0 : decode cX5_best 0 = .ok (.aload_n 0, 1) := by decide +kernel
theorem dX5_best_1 : decode cX5_best 1 = .ok (.iload_n 1, 1) := by decide +kernel
theorem dX5_best_2 : decode cX5_best 2 = .ok (.invokevirtual 78, 3) := by decide +kernel
theorem dX5_best_5 : decode cX5_best 5 = .ok (.ifCond .eq 7, 3) := by decide +kernel
theorem dX5_best_8 : decode cX5_best 8 = .ok (.iconst 0, 1) := by decide +kernel
theorem dX5_best_9 : decode cX5_best 9 = .ok (.goto 8, 3) := by decide +kernel
theorem dX5_best_12 : decode cX5_best 12 = .ok (.aload_n 0, 1) := by decide +kernel
theorem dX5_best_13 : decode cX5_best 13 = .ok (.iload_n 1, 1) := by decide +kernel
theorem dX5_best_14 : decode cX5_best 14 = .ok (.invokevirtual 100, 3) := by decide +kernel
theorem dX5_best_17 : decode cX5_best 17 = .ok (.ireturn, 1) := by decide +kernel
set_option maxRecDepth 20000 in
theorem ggX5_settle_X5_isComplete : GoodIn wsX5_settle wsX5_isComplete := goodIn_r _ [11, 2, 12, 13, 14, 15, 10, 16, 17, 5, 52, 53, 54, 55, 56, 57, 58, 59, 60, 61, 62, 63, 64, 65, 66, 67] (by decide +kernel) (by decide +kernel)
set_option maxRecDepth 20000 in
theorem gX5_settle_X5_isComplete : GoodIn wsX5_settle (wsV RX5 69 RX5 yX5_isComplete wsX5_isComplete) := goodIn_app (goodIn_of _ (by decide +kernel)) ggX5_settle_X5_isComplete
set_option maxRecDepth 20000 in
theorem ggX5_settle_X5_bestOf : GoodIn wsX5_settle wsX5_bestOf := goodIn_r _ [21, 22, 23, 4, 12, 24, 25, 26, 27, 28, 29, 30, 10, 31, 6, 2, 32, 33, 34, 35, 13, 14, 15, 16, 17, 5, 36, 37, 38, 39, 40, 41, 42, 43, 44, 45, 46, 47, 48, 49, 50, 51, 52, 53, 54, 55, 56, 57, 58, 59, 60, 61, 62, 63, 64, 65, 66, 67] (by decide +kernel) (by decide +kernel)
set_option maxRecDepth 20000 in
theorem gX5_settle_X5_bestOf : GoodIn wsX5_settle (wsV RX5 100 RX5 yX5_bestOf wsX5_bestOf) := goodIn_app (goodIn_of _ (by decide +kernel)) ggX5_settle_X5_bestOf
theorem dX5_settle_0 : decode cX5_settle 0 = .ok (.aload_n 0, 1) := by decide +kernel
theorem dX5_settle_1 : decode cX5_settle 1 = .ok (.iload_n 1, 1) := by decide +kernel
theorem dX5_settle_2 : decode cX5_settle 2 = .ok (.ifCond .eq 12, 3) := by decide +kernel
theorem dX5_settle_5 : decode cX5_settle 5 = .ok (.iload_n 1, 1) := by decide +kernel
theorem dX5_settle_6 : decode cX5_settle 6 = .ok (.iconst 1, 1) := by decide +kernel
theorem dX5_settle_7 : decode cX5_settle 7 = .ok (.if_icmp .eq 7, 3) := by decide +kernel
theorem dX5_settle_10 : decode cX5_settle 10 = .ok (.iconst 1, 1) := by decide +kernel
theorem dX5_settle_11 : decode cX5_settle 11 = .ok (.goto 15, 3) := by decide +kernel
theorem dX5_settle_14 : decode cX5_settle 14 = .ok (.aload_n 0, 1) := by decide +kernel
theorem dX5_settle_15 : decode cX5_settle 15 = .ok (.invokevirtual 69, 3) := by decide +kernel
theorem dX5_settle_18 : decode cX5_settle 18 = .ok (.ifCond .eq 7, 3) := by decide +kernel
theorem dX5_settle_21 : decode cX5_settle 21 = .ok (.iconst 0, 1) := by decide +kernel
theorem dX5_settle_22 : decode cX5_settle 22 = .ok (.goto 4, 3) := by decide +kernel
theorem dX5_settle_25 : decode cX5_settle 25 = .ok (.iconst 2, 1) := by decide +kernel
theorem dX5_settle_26 : decode cX5_settle 26 = .ok (.putfield 47, 3) := by decide +kernel
theorem dX5_settle_29 : decode cX5_settle 29 = .ok (.aload_n 0, 1) := by decide +kernel
theorem dX5_settle_30 : decode cX5_settle 30 = .ok (.getfield 47, 3) := by decide +kernel
theorem dX5_settle_33 : decode cX5_settle 33 = .ok (.ifCond .le 5, 3) := by decide +kernel
theorem dX5_settle_36 : decode cX5_settle 36 = .ok (.iconst 0, 1) := by decide +kernel
theorem dX5_settle_37 : decode cX5_settle 37 = .ok (.ireturn, 1) := by decide +kernel
theorem dX5_settle_38 : decode cX5_settle 38 = .ok (.iconst 0, 1) := by decide +kernel
theorem dX5_settle_39 : decode cX5_settle 39 = .ok (.istore_n 2, 1) := by decide +kernel
theorem dX5_settle_40 : decode cX5_settle 40 = .ok (.iload_n 2, 1) := by decide +kernel
theorem dX5_settle_41 : decode cX5_settle 41 = .ok (.aload_n 0, 1) := by decide +kernel
theorem dX5_settle_42 : decode cX5_settle 42 = .ok (.getfield 51, 3) := by decide +kernel
theorem dX5_settle_45 : decode cX5_settle 45 = .ok (.if_icmp .ge 44, 3) := by decide +kernel
theorem dX5_settle_48 : decode cX5_settle 48 = .ok (.aload_n 0, 1) := by decide +kernel
theorem dX5_settle_49 : decode cX5_settle 49 = .ok (.getfield 44, 3) := by decide +kernel
theorem dX5_settle_52 : decode cX5_settle 52 = .ok (.iload_n 2, 1) := by decide +kernel
theorem dX5_settle_53 : decode cX5_settle 53 = .ok (.aload_n 0, 1) := by decide +kernel
theorem dX5_settle_54 : decode cX5_settle 54 = .ok (.getfield 7, 3) := by decide +kernel
theorem dX5_settle_57 : decode cX5_settle 57 = .ok (.iload_n 2, 1) := by decide +kernel
theorem dX5_settle_58 : decode cX5_settle 58 = .ok (.iaload, 1) := by decide +kernel
theorem dX5_settle_59 : decode cX5_settle 59 = .ok (.iload_n 1, 1) := by decide +kernel
theorem dX5_settle_60 : decode cX5_settle 60 = .ok (.if_icmp .ne 21, 3) := by decide +kernel
theorem dX5_settle_63 : decode cX5_settle 63 = .ok (.aload_n 0, 1) := by decide +kernel
theorem dX5_settle_64 : decode cX5_settle 64 = .ok (.getfield 13, 3) := by decide +kernel
theorem dX5_settle_67 : decode cX5_settle 67 = .ok (.iload_n 2, 1) := by decide +kernel
theorem dX5_settle_68 : decode cX5_settle 68 = .ok (.iaload, 1) := by decide +kernel
theorem dX5_settle_69 : decode cX5_settle 69 = .ok (.iconst (-1), 1) := by decide +kernel
theorem dX5_settle_70 : decode cX5_settle 70 = .ok (.if_icmp .ne 11, 3) := by decide +kernel
theorem dX5_settle_73 : decode cX5_settle 73 = .ok (.aload_n 0, 1) := by decide +kernel
theorem dX5_settle_74 : decode cX5_settle 74 = .ok (.iload_n 2, 1) := by decide +kernel
theorem dX5_settle_75 : decode cX5_settle 75 = .ok (.invokevirtual 100, 3) := by decide +kernel
theorem dX5_settle_78 : decode cX5_settle 78 = .ok (.goto 4, 3) := by decide +kernel
theorem dX5_settle_81 : decode cX5_settle 81 = .ok (.iconst (-1), 1) := by decide +kernel
theorem dX5_settle_82 : decode cX5_settle 82 = .ok (.iastore, 1) := by decide +kernel
theorem dX5_settle_83 : decode cX5_settle 83 = .ok (.iinc 2 1, 3) := by decide +kernel
theorem dX5_settle_86 : decode cX5_settle 86 = .ok (.goto (-46), 3) := by decide +kernel
theorem dX5_settle_89 : decode cX5_settle 89 = .ok (.iconst 0, 1) := by decide +kernel
theorem dX5_settle_90 : decode cX5_settle 90 = .ok (.istore_n 2, 1) := by decide +kernel
theorem dX5_settle_91 : decode cX5_settle 91 = .ok (.iconst 0, 1) := by decide +kernel
theorem dX5_settle_92 : decode cX5_settle 92 = .ok (.istore_n 3, 1) := by decide +kernel
theorem dX5_settle_93 : decode cX5_settle 93 = .ok (.iload_n 3, 1) := by decide +kernel
theorem dX5_settle_94 : decode cX5_settle 94 = .ok (.aload_n 0, 1) := by decide +kernel
theorem dX5_settle_95 : decode cX5_settle 95 = .ok (.getfield 51, 3) := by decide +kernel
theorem dX5_settle_98 : decode cX5_settle 98 = .ok (.if_icmp .ge 37, 3) := by decide +kernel
theorem dX5_settle_101 : decode cX5_settle 101 = .ok (.aload_n 0, 1) := by decide +kernel
theorem dX5_settle_102 : decode cX5_settle 102 = .ok (.getfield 44, 3) := by decide +kernel
theorem dX5_settle_105 : decode cX5_settle 105 = .ok (.iload_n 3, 1) := by decide +kernel
theorem dX5_settle_106 : decode cX5_settle 106 = .ok (.iaload, 1) := by decide +kernel
theorem dX5_settle_107 : decode cX5_settle 107 = .ok (.iconst (-1), 1) := by decide +kernel
theorem dX5_settle_108 : decode cX5_settle 108 = .ok (.if_icmp .ne 6, 3) := by decide +kernel
theorem dX5_settle_111 : decode cX5_settle 111 = .ok (.goto 18, 3) := by decide +kernel
theorem dX5_settle_114 : decode cX5_settle 114 = .ok (.aload_n 0, 1) := by decide +kernel
theorem dX5_settle_115 : decode cX5_settle 115 = .ok (.getfield 13, 3) := by decide +kernel
theorem dX5_settle_118 : decode cX5_settle 118 = .ok (.iload_n 3, 1) := by decide +kernel
theorem dX5_settle_119 : decode cX5_settle 119 = .ok (.aload_n 0, 1) := by decide +kernel
theorem dX5_settle_120 : decode cX5_settle 120 = .ok (.getfield 44, 3) := by decide +kernel
theorem dX5_settle_123 : decode cX5_settle 123 = .ok (.iload_n 3, 1) := by decide +kernel
theorem dX5_settle_124 : decode cX5_settle 124 = .ok (.iaload, 1) := by decide +kernel
theorem dX5_settle_125 : decode cX5_settle 125 = .ok (.iastore, 1) := by decide +kernel
theorem dX5_settle_126 : decode cX5_settle 126 = .ok (.iinc 2 1, 3) := by decide +kernel
theorem dX5_settle_129 : decode cX5_settle 129 = .ok (.iinc 3 1, 3) := by decide +kernel
theorem dX5_settle_132 : decode cX5_settle 132 = .ok (.goto (-39), 3) := by decide +kernel
theorem dX5_settle_135 : decode cX5_settle 135 = .ok (.aload_n 0, 1) := by decide +kernel
theorem dX5_settle_136 : decode cX5_settle 136 = .ok (.aload_n 0, 1) := by decide +kernel
theorem dX5_settle_137 : decode cX5_settle 137 = .ok (.getfield 61, 3) := by decide +kernel
theorem dX5_settle_140 : decode cX5_settle 140 = .ok (.ifCond .eq 11, 3) := by decide +kernel
theorem dX5_settle_143 : decode cX5_settle 143 = .ok (.iload_n 2, 1) := by decide +kernel
theorem dX5_settle_144 : decode cX5_settle 144 = .ok (.ifCond .ne 7, 3) := by decide +kernel
theorem dX5_settle_147 : decode cX5_settle 147 = .ok (.iconst 1, 1) := by decide +kernel
theorem dX5_settle_148 : decode cX5_settle 148 = .ok (.goto 4, 3) := by decide +kernel
theorem dX5_settle_151 : decode cX5_settle 151 = .ok (.iconst 0, 1) := by decide +kernel
theorem dX5_settle_152 : decode cX5_settle 152 = .ok (.putfield 61, 3) := by decide +kernel
theorem dX5_settle_155 : decode cX5_settle 155 = .ok (.iload_n 2, 1) := by decide +kernel
theorem dX5_settle_156 : decode cX5_settle 156 = .ok (.ireturn, 1) := by decide +kernel
set_option maxRecDepth 20000 in
theorem ggX5_walk_X5_isVertex : GoodIn wsX5_walk wsX5_isVertex := goodIn_r _ [10, 2, 56, 57, 58, 59, 60, 61, 62, 63, 64, 65, 66, 67, 68, 69, 70, 71] (by decide +kernel) (by decide +kernel)
set_option maxRecDepth 20000 in
theorem gX5_walk_X5_isVertex : GoodIn wsX5_walk (wsV RX5 65 RX5 yX5_isVertex wsX5_isVertex) := goodIn_app (goodIn_of _ (by decide +kernel)) ggX5_walk_X5_isVertex
set_option maxRecDepth 20000 in
theorem ggX5_walk_X5_isComplete : GoodIn wsX5_walk wsX5_isComplete := goodIn_r _ [14, 2, 15, 16, 17, 18, 9, 19, 20, 21, 56, 57, 58, 59, 60, 61, 62, 63, 64, 65, 66, 67, 68, 69, 70, 71] (by decide +kernel) (by decide +kernel)
set_option maxRecDepth 20000 in
theorem gX5_walk_X5_isComplete : GoodIn wsX5_walk (wsV RX5 69 RX5 yX5_isComplete wsX5_isComplete) := goodIn_app (goodIn_of _ (by decide +kernel)) ggX5_walk_X5_isComplete
set_option maxRecDepth 20000 in
theorem ggX5_walk_X5_bestOf : GoodIn wsX5_walk wsX5_bestOf := goodIn_r _ [25, 26, 27, 28, 15, 29, 4, 30, 5, 31, 32, 33, 9, 34, 35, 2, 36, 37, 38, 39, 16, 17, 18, 19, 20, 21, 40, 41, 42, 43, 44, 45, 46, 47, 48, 49, 50, 51, 52, 53, 54, 55, 56, 57, 58, 59, 60, 61, 62, 63, 64, 65, 66, 67, 68, 69, 70, 71] (by decide +kernel) (by decide +kernel)
set_option maxRecDepth 20000 in
theorem gX5_walk_X5_bestOf : GoodIn wsX5_walk (wsV RX5 100 RX5 yX5_bestOf wsX5_bestOf) := goodIn_app (goodIn_of _ (by decide +kernel)) ggX5_walk_X5_bestOf
theorem dX5_walk_0 : decode cX5_walk 0 = .ok (.aload_n 0, 1) := by decide +kernel
theorem dX5_walk_1 : decode cX5_walk 1 = .ok (.aload_n 0, 1) := by decide +kernel
theorem dX5_walk_2 : decode cX5_walk 2 = .ok (.iload_n 1, 1) := by decide +kernel
theorem dX5_walk_3 : decode cX5_walk 3 = .ok (.invokevirtual 65, 3) := by decide +kernel
theorem dX5_walk_6 : decode cX5_walk 6 = .ok (.ifCond .eq 12, 3) := by decide +kernel
theorem dX5_walk_9 : decode cX5_walk 9 = .ok (.iload_n 2, 1) := by decide +kernel
theorem dX5_walk_10 : decode cX5_walk 10 = .ok (.ifCond .lt 8, 3) := by decide +kernel
theorem dX5_walk_13 : decode cX5_walk 13 = .ok (.iload_n 2, 1) := by decide +kernel
theorem dX5_walk_14 : decode cX5_walk 14 = .ok (.iconst 3, 1) := by decide +kernel
theorem dX5_walk_15 : decode cX5_walk 15 = .ok (.if_icmp .le 7, 3) := by decide +kernel
theorem dX5_walk_18 : decode cX5_walk 18 = .ok (.iconst 1, 1) := by decide +kernel
theorem dX5_walk_19 : decode cX5_walk 19 = .ok (.goto 15, 3) := by decide +kernel
theorem dX5_walk_22 : decode cX5_walk 22 = .ok (.aload_n 0, 1) := by decide +kernel
theorem dX5_walk_23 : decode cX5_walk 23 = .ok (.invokevirtual 69, 3) := by decide +kernel
theorem dX5_walk_26 : decode cX5_walk 26 = .ok (.ifCond .eq 7, 3) := by decide +kernel
theorem dX5_walk_29 : decode cX5_walk 29 = .ok (.iconst 0, 1) := by decide +kernel
theorem dX5_walk_30 : decode cX5_walk 30 = .ok (.goto 4, 3) := by decide +kernel
theorem dX5_walk_33 : decode cX5_walk 33 = .ok (.iconst 2, 1) := by decide +kernel
theorem dX5_walk_34 : decode cX5_walk 34 = .ok (.putfield 47, 3) := by decide +kernel
theorem dX5_walk_37 : decode cX5_walk 37 = .ok (.aload_n 0, 1) := by decide +kernel
theorem dX5_walk_38 : decode cX5_walk 38 = .ok (.getfield 47, 3) := by decide +kernel
theorem dX5_walk_41 : decode cX5_walk 41 = .ok (.ifCond .le 5, 3) := by decide +kernel
theorem dX5_walk_44 : decode cX5_walk 44 = .ok (.iconst 0, 1) := by decide +kernel
theorem dX5_walk_45 : decode cX5_walk 45 = .ok (.ireturn, 1) := by decide +kernel
theorem dX5_walk_46 : decode cX5_walk 46 = .ok (.iconst 0, 1) := by decide +kernel
theorem dX5_walk_47 : decode cX5_walk 47 = .ok (.istore_n 3, 1) := by decide +kernel
theorem dX5_walk_48 : decode cX5_walk 48 = .ok (.iload_n 3, 1) := by decide +kernel
theorem dX5_walk_49 : decode cX5_walk 49 = .ok (.aload_n 0, 1) := by decide +kernel
theorem dX5_walk_50 : decode cX5_walk 50 = .ok (.getfield 51, 3) := by decide +kernel
theorem dX5_walk_53 : decode cX5_walk 53 = .ok (.if_icmp .ge 16, 3) := by decide +kernel
theorem dX5_walk_56 : decode cX5_walk 56 = .ok (.aload_n 0, 1) := by decide +kernel
theorem dX5_walk_57 : decode cX5_walk 57 = .ok (.getfield 44, 3) := by decide +kernel
theorem dX5_walk_60 : decode cX5_walk 60 = .ok (.iload_n 3, 1) := by decide +kernel
theorem dX5_walk_61 : decode cX5_walk 61 = .ok (.iconst (-1), 1) := by decide +kernel
theorem dX5_walk_62 : decode cX5_walk 62 = .ok (.iastore, 1) := by decide +kernel
theorem dX5_walk_63 : decode cX5_walk 63 = .ok (.iinc 3 1, 3) := by decide +kernel
theorem dX5_walk_66 : decode cX5_walk 66 = .ok (.goto (-18), 3) := by decide +kernel
theorem dX5_walk_69 : decode cX5_walk 69 = .ok (.iload_n 1, 1) := by decide +kernel
theorem dX5_walk_70 : decode cX5_walk 70 = .ok (.istore_n 3, 1) := by decide +kernel
theorem dX5_walk_71 : decode cX5_walk 71 = .ok (.iconst 0, 1) := by decide +kernel
theorem dX5_walk_72 : decode cX5_walk 72 = .ok (.istore 4, 2) := by decide +kernel
theorem dX5_walk_74 : decode cX5_walk 74 = .ok (.aload_n 0, 1) := by decide +kernel
theorem dX5_walk_75 : decode cX5_walk 75 = .ok (.getfield 44, 3) := by decide +kernel
theorem dX5_walk_78 : decode cX5_walk 78 = .ok (.iload_n 3, 1) := by decide +kernel
theorem dX5_walk_79 : decode cX5_walk 79 = .ok (.iaload, 1) := by decide +kernel
theorem dX5_walk_80 : decode cX5_walk 80 = .ok (.ifCond .ge 28, 3) := by decide +kernel
theorem dX5_walk_83 : decode cX5_walk 83 = .ok (.aload_n 0, 1) := by decide +kernel
theorem dX5_walk_84 : decode cX5_walk 84 = .ok (.getfield 44, 3) := by decide +kernel
theorem dX5_walk_87 : decode cX5_walk 87 = .ok (.iload_n 3, 1) := by decide +kernel
theorem dX5_walk_88 : decode cX5_walk 88 = .ok (.iload 4, 2) := by decide +kernel
theorem dX5_walk_90 : decode cX5_walk 90 = .ok (.iastore, 1) := by decide +kernel
theorem dX5_walk_91 : decode cX5_walk 91 = .ok (.iinc 4 1, 3) := by decide +kernel
theorem dX5_walk_94 : decode cX5_walk 94 = .ok (.aload_n 0, 1) := by decide +kernel
theorem dX5_walk_95 : decode cX5_walk 95 = .ok (.getfield 19, 3) := by decide +kernel
theorem dX5_walk_98 : decode cX5_walk 98 = .ok (.aload_n 0, 1) := by decide +kernel
theorem dX5_walk_99 : decode cX5_walk 99 = .ok (.iload_n 3, 1) := by decide +kernel
theorem dX5_walk_100 : decode cX5_walk 100 = .ok (.invokevirtual 100, 3) := by decide +kernel
theorem dX5_walk_103 : decode cX5_walk 103 = .ok (.iaload, 1) := by decide +kernel
theorem dX5_walk_104 : decode cX5_walk 104 = .ok (.istore_n 3, 1) := by decide +kernel
theorem dX5_walk_105 : decode cX5_walk 105 = .ok (.goto (-31), 3) := by decide +kernel
theorem dX5_walk_108 : decode cX5_walk 108 = .ok (.aload_n 0, 1) := by decide +kernel
theorem dX5_walk_109 : decode cX5_walk 109 = .ok (.getfield 44, 3) := by decide +kernel
theorem dX5_walk_112 : decode cX5_walk 112 = .ok (.iload_n 3, 1) := by decide +kernel
theorem dX5_walk_113 : decode cX5_walk 113 = .ok (.iaload, 1) := by decide +kernel
theorem dX5_walk_114 : decode cX5_walk 114 = .ok (.istore 5, 2) := by decide +kernel
theorem dX5_walk_116 : decode cX5_walk 116 = .ok (.iload_n 2, 1) := by decide +kernel
theorem dX5_walk_117 : decode cX5_walk 117 = .ok (.ifCond .ne 6, 3) := by decide +kernel
theorem dX5_walk_120 : decode cX5_walk 120 = .ok (.iload 5, 2) := by decide +kernel
theorem dX5_walk_122 : decode cX5_walk 122 = .ok (.ireturn, 1) := by decide +kernel
theorem dX5_walk_123 : decode cX5_walk 123 = .ok (.iload_n 2, 1) := by decide +kernel
theorem dX5_walk_124 : decode cX5_walk 124 = .ok (.iconst 1, 1) := by decide +kernel
theorem dX5_walk_125 : decode cX5_walk 125 = .ok (.if_icmp .ne 9, 3) := by decide +kernel
theorem dX5_walk_128 : decode cX5_walk 128 = .ok (.iload 4, 2) := by decide +kernel
theorem dX5_walk_130 : decode cX5_walk 130 = .ok (.iload 5, 2) := by decide +kernel
theorem dX5_walk_132 : decode cX5_walk 132 = .ok (.isub, 1) := by decide +kernel
theorem dX5_walk_133 : decode cX5_walk 133 = .ok (.ireturn, 1) := by decide +kernel
theorem dX5_walk_134 : decode cX5_walk 134 = .ok (.iload_n 2, 1) := by decide +kernel
theorem dX5_walk_135 : decode cX5_walk 135 = .ok (.iconst 3, 1) := by decide +kernel
theorem dX5_walk_136 : decode cX5_walk 136 = .ok (.if_icmp .ne 5, 3) := by decide +kernel
theorem dX5_walk_139 : decode cX5_walk 139 = .ok (.iload_n 3, 1) := by decide +kernel
theorem dX5_walk_140 : decode cX5_walk 140 = .ok (.ireturn, 1) := by decide +kernel
theorem dX5_walk_141 : decode cX5_walk 141 = .ok (.iconst 0, 1) := by decide +kernel
theorem dX5_walk_142 : decode cX5_walk 142 = .ok (.istore 6, 2) := by decide +kernel
theorem dX5_walk_144 : decode cX5_walk 144 = .ok (.iload_n 3, 1) := by decide +kernel
theorem dX5_walk_145 : decode cX5_walk 145 = .ok (.istore 7, 2) := by decide +kernel
theorem dX5_walk_147 : decode cX5_walk 147 = .ok (.iconst 1, 1) := by decide +kernel
theorem dX5_walk_148 : decode cX5_walk 148 = .ok (.istore 8, 2) := by decide +kernel
theorem dX5_walk_150 : decode cX5_walk 150 = .ok (.iload 8, 2) := by decide +kernel
theorem dX5_walk_152 : decode cX5_walk 152 = .ok (.ifCond .eq 48, 3) := by decide +kernel
theorem dX5_walk_155 : decode cX5_walk 155 = .ok (.aload_n 0, 1) := by decide +kernel
theorem dX5_walk_156 : decode cX5_walk 156 = .ok (.iload 7, 2) := by decide +kernel
theorem dX5_walk_158 : decode cX5_walk 158 = .ok (.invokevirtual 100, 3) := by decide +kernel
theorem dX5_walk_161 : decode cX5_walk 161 = .ok (.istore 9, 2) := by decide +kernel
theorem dX5_walk_163 : decode cX5_walk 163 = .ok (.iload 6, 2) := by decide +kernel
theorem dX5_walk_165 : decode cX5_walk 165 = .ok (.aload_n 0, 1) := by decide +kernel
theorem dX5_walk_166 : decode cX5_walk 166 = .ok (.getfield 22, 3) := by decide +kernel
theorem dX5_walk_169 : decode cX5_walk 169 = .ok (.iload 9, 2) := by decide +kernel
theorem dX5_walk_171 : decode cX5_walk 171 = .ok (.iaload, 1) := by decide +kernel
theorem dX5_walk_172 : decode cX5_walk 172 = .ok (.iadd, 1) := by decide +kernel
theorem dX5_walk_173 : decode cX5_walk 173 = .ok (.istore 6, 2) := by decide +kernel
theorem dX5_walk_175 : decode cX5_walk 175 = .ok (.aload_n 0, 1) := by decide +kernel
theorem dX5_walk_176 : decode cX5_walk 176 = .ok (.getfield 19, 3) := by decide +kernel
theorem dX5_walk_179 : decode cX5_walk 179 = .ok (.iload 9, 2) := by decide +kernel
theorem dX5_walk_181 : decode cX5_walk 181 = .ok (.iaload, 1) := by decide +kernel
theorem dX5_walk_182 : decode cX5_walk 182 = .ok (.istore 7, 2) := by decide +kernel
theorem dX5_walk_184 : decode cX5_walk 184 = .ok (.iload 7, 2) := by decide +kernel
theorem dX5_walk_186 : decode cX5_walk 186 = .ok (.iload_n 3, 1) := by decide +kernel
theorem dX5_walk_187 : decode cX5_walk 187 = .ok (.if_icmp .eq 7, 3) := by decide +kernel
theorem dX5_walk_190 : decode cX5_walk 190 = .ok (.iconst 1, 1) := by decide +kernel
theorem dX5_walk_191 : decode cX5_walk 191 = .ok (.goto 4, 3) := by decide +kernel
theorem dX5_walk_194 : decode cX5_walk 194 = .ok (.iconst 0, 1) := by decide +kernel
theorem dX5_walk_195 : decode cX5_walk 195 = .ok (.istore 8, 2) := by decide +kernel
theorem dX5_walk_197 : decode cX5_walk 197 = .ok (.goto (-47), 3) := by decide +kernel
theorem dX5_walk_200 : decode cX5_walk 200 = .ok (.iload 6, 2) := by decide +kernel
theorem dX5_walk_202 : decode cX5_walk 202 = .ok (.ireturn, 1) := by decide +kernel
theorem dJ6_compare_7cf53_0 : decode cJ6_compare_7cf53 0 = .ok (.iload_n 0, 1) := by decide +kernel
theorem dJ6_compare_7cf53_1 : decode cJ6_compare_7cf53 1 = .ok (.iload_n 1, 1) := by decide +kernel
theorem dJ6_compare_7cf53_2 : decode cJ6_compare_7cf53 2 = .ok (.if_icmp .ge 7, 3) := by decide +kernel
theorem dJ6_compare_7cf53_5 : decode cJ6_compare_7cf53 5 = .ok (.iconst (-1), 1) := by decide +kernel
theorem dJ6_compare_7cf53_6 : decode cJ6_compare_7cf53 6 = .ok (.goto 13, 3) := by decide +kernel
theorem dJ6_compare_7cf53_9 : decode cJ6_compare_7cf53 9 = .ok (.iload_n 0, 1) := by decide +kernel
theorem dJ6_compare_7cf53_10 : decode cJ6_compare_7cf53 10 = .ok (.iload_n 1, 1) := by decide +kernel
theorem dJ6_compare_7cf53_11 : decode cJ6_compare_7cf53 11 = .ok (.if_icmp .ne 7, 3) := by decide +kernel
theorem dJ6_compare_7cf53_14 : decode cJ6_compare_7cf53 14 = .ok (.iconst 0, 1) := by decide +kernel
theorem dJ6_compare_7cf53_15 : decode cJ6_compare_7cf53 15 = .ok (.goto 4, 3) := by decide +kernel
theorem dJ6_compare_7cf53_18 : decode cJ6_compare_7cf53 18 = .ok (.iconst 1, 1) := by decide +kernel
theorem dJ6_compare_7cf53_19 : decode cJ6_compare_7cf53 19 = .ok (.ireturn, 1) := by decide +kernel
theorem dJ9_max_7cf53_0 : decode cJ9_max_7cf53 0 = .ok (.iload_n 0, 1) := by decide +kernel
theorem dJ9_max_7cf53_1 : decode cJ9_max_7cf53 1 = .ok (.iload_n 1, 1) := by decide +kernel
theorem dJ9_max_7cf53_2 : decode cJ9_max_7cf53 2 = .ok (.if_icmp .lt 7, 3) := by decide +kernel
theorem dJ9_max_7cf53_5 : decode cJ9_max_7cf53 5 = .ok (.iload_n 0, 1) := by decide +kernel
theorem dJ9_max_7cf53_6 : decode cJ9_max_7cf53 6 = .ok (.goto 4, 3) := by decide +kernel
theorem dJ9_max_7cf53_9 : decode cJ9_max_7cf53 9 = .ok (.iload_n 1, 1) := by decide +kernel
theorem dJ9_max_7cf53_10 : decode cJ9_max_7cf53 10 = .ok (.ireturn, 1) := by decide +kernel
theorem dJ9_min_7cf53_0 : decode cJ9_min_7cf53 0 = .ok (.iload_n 0, 1) := by decide +kernel
theorem dJ9_min_7cf53_1 : decode cJ9_min_7cf53 1 = .ok (.iload_n 1, 1) := by decide +kernel
theorem dJ9_min_7cf53_2 : decode cJ9_min_7cf53 2 = .ok (.if_icmp .gt 7, 3) := by decide +kernel
theorem dJ9_min_7cf53_5 : decode cJ9_min_7cf53 5 = .ok (.iload_n 0, 1) := by decide +kernel
theorem dJ9_min_7cf53_6 : decode cJ9_min_7cf53 6 = .ok (.goto 4, 3) := by decide +kernel
theorem dJ9_min_7cf53_9 : decode cJ9_min_7cf53 9 = .ok (.iload_n 1, 1) := by decide +kernel
theorem dJ9_min_7cf53_10 : decode cJ9_min_7cf53 10 = .ok (.ireturn, 1) := by decide +kernel
theorem dJ7_fill_53178_0 : decode cJ7_fill_53178 0 = .ok (.iconst 0, 1) := by decide +kernel
theorem dJ7_fill_53178_1 : decode cJ7_fill_53178 1 = .ok (.istore_n 2, 1) := by decide +kernel
theorem dJ7_fill_53178_2 : decode cJ7_fill_53178 2 = .ok (.aload_n 0, 1) := by decide +kernel
theorem dJ7_fill_53178_3 : decode cJ7_fill_53178 3 = .ok (.arraylength, 1) := by decide +kernel
theorem dJ7_fill_53178_4 : decode cJ7_fill_53178 4 = .ok (.istore_n 3, 1) := by decide +kernel
theorem dJ7_fill_53178_5 : decode cJ7_fill_53178 5 = .ok (.iload_n 2, 1) := by decide +kernel
theorem dJ7_fill_53178_6 : decode cJ7_fill_53178 6 = .ok (.iload_n 3, 1) := by decide +kernel
theorem dJ7_fill_53178_7 : decode cJ7_fill_53178 7 = .ok (.if_icmp .ge 13, 3) := by decide +kernel
theorem dJ7_fill_53178_10 : decode cJ7_fill_53178 10 = .ok (.aload_n 0, 1) := by decide +kernel
theorem dJ7_fill_53178_11 : decode cJ7_fill_53178 11 = .ok (.iload_n 2, 1) := by decide +kernel
theorem dJ7_fill_53178_12 : decode cJ7_fill_53178 12 = .ok (.iload_n 1, 1) := by decide +kernel
theorem dJ7_fill_53178_13 : decode cJ7_fill_53178 13 = .ok (.iastore, 1) := by decide +kernel
theorem dJ7_fill_53178_14 : decode cJ7_fill_53178 14 = .ok (.iinc 2 1, 3) := by decide +kernel
theorem dJ7_fill_53178_17 : decode cJ7_fill_53178 17 = .ok (.goto (-12), 3) := by decide +kernel
theorem dJ7_fill_53178_20 : decode cJ7_fill_53178 20 = .ok (.return_, 1) := by decide +kernel
abbrev vwCl : List vw_C := [(RX0, TX0, 4), (RX1, TX1, 9), (RX2, TX2, 2), (RX3, TX3, 4), (RX4, TX4, 5), (RX5, TX5, 16)]
end
section
/-! ===== the theory of the game, over whole numbers: the game that stops when a vertex comes again, and credits ===== -/
theorem gm_len : ∀ (n : Nat) (l : List Nat), l.Nodup → (∀ x ∈ l, x < n) → l.length ≤ n := by
  intro n
  induction n with
  | zero =>
    intro l _ h
    cases l with
    | nil => exact Nat.le_refl 0
    | cons a l => exact absurd (h a List.mem_cons_self) (by omega)
  | succ n ih =>
    intro l hn h
    have h1 : (l.erase n).length ≤ n := by
      refine ih _ (hn.erase n) (fun x hx => ?_)
      have h2 := (hn.mem_erase_iff).mp hx
      have h3 := h x h2.2
      have h4 : x ≠ n := h2.1
      omega
    have h5 := List.length_erase (a := n) (l := l)
    split at h5 <;> omega
/-- the game that stops: the player who spares (ow) wins if the loop's sum is not below 0. The path, newest first: a vertex and the sum when it was entered -/
def gm_win (adj : Nat → List Nat) (tgt : Nat → Nat) (ow : Nat → Bool) (w : Nat → Int) : Nat → List (Nat × Int) → Nat → Int → Prop
  | 0, _, _, _ => False
  | k + 1, π, v, s => match π.lookup v with
    | some s0 => s0 ≤ s
    | none => (ow v = true → ∃ e ∈ adj v, gm_win adj tgt ow w k ((v, s) :: π) (tgt e) (s + w e)) ∧ (ow v = false → ∀ e ∈ adj v, gm_win adj tgt ow w k ((v, s) :: π) (tgt e) (s + w e))
theorem gm_win_some {adj : Nat → List Nat} {tgt : Nat → Nat} {ow : Nat → Bool} {w : Nat → Int} {k : Nat} {π : List (Nat × Int)} {v : Nat} {s s0 : Int} (h : π.lookup v = some s0) : gm_win adj tgt ow w (k + 1) π v s ↔ s0 ≤ s := by
  simp only [gm_win, h]
theorem gm_win_none {adj : Nat → List Nat} {tgt : Nat → Nat} {ow : Nat → Bool} {w : Nat → Int} {k : Nat} {π : List (Nat × Int)} {v : Nat} {s : Int} (h : π.lookup v = none) : gm_win adj tgt ow w (k + 1) π v s ↔ ((ow v = true → ∃ e ∈ adj v, gm_win adj tgt ow w k ((v, s) :: π) (tgt e) (s + w e)) ∧ (ow v = false → ∀ e ∈ adj v, gm_win adj tgt ow w k ((v, s) :: π) (tgt e) (s + w e))) := by
  simp only [gm_win, h]
/-- a path that can be: its vertices are apart and there -/
def gm_ok (n : Nat) (π : List (Nat × Int)) : Prop := (π.map Prod.fst).Nodup ∧ ∀ q ∈ π, q.1 < n
theorem gm_ok_len {n : Nat} {π : List (Nat × Int)} (h : gm_ok n π) : π.length ≤ n := by
  have := gm_len n (π.map Prod.fst) h.1 (fun x hx => by obtain ⟨q, hq, rfl⟩ := List.mem_map.mp hx; exact h.2 q hq)
  simpa using this
theorem gm_lookup_none {π : List (Nat × Int)} {v : Nat} : π.lookup v = none ↔ v ∉ π.map Prod.fst := by
  induction π with
  | nil => simp
  | cons q π ih =>
    obtain ⟨u, su⟩ := q
    rw [List.lookup_cons]
    by_cases h : v = u
    · simp [h]
    · have h1 : (v == u) = false := by simpa using h
      rw [h1]
      simp only [List.map_cons, List.mem_cons, not_or]
      constructor
      · intro h2; exact ⟨h, ih.mp h2⟩
      · intro h2; exact ih.mpr h2.2
theorem gm_lookup_mem {π : List (Nat × Int)} {v : Nat} {s : Int} (h : π.lookup v = some s) : (v, s) ∈ π := by
  induction π with
  | nil => simp at h
  | cons q π ih =>
    obtain ⟨u, su⟩ := q
    rw [List.lookup_cons] at h
    by_cases hv : v = u
    · subst hv
      simp at h
      subst h
      exact List.mem_cons_self
    · have h1 : (v == u) = false := by simpa using hv
      rw [h1] at h
      exact List.mem_cons_of_mem _ (ih h)
theorem gm_ok_push {n : Nat} {π : List (Nat × Int)} {v : Nat} {s : Int} (h : gm_ok n π) (hv : v < n) (hl : π.lookup v = none) : gm_ok n ((v, s) :: π) := by
  refine ⟨?_, ?_⟩
  · simp only [List.map_cons, List.nodup_cons]
    exact ⟨gm_lookup_none.mp hl, h.1⟩
  · intro q hq
    rcases List.mem_cons.mp hq with rfl | hq
    · exact hv
    · exact h.2 q hq
section GM
variable {n : Nat} {adj : Nat → List Nat} {tgt : Nat → Nat} {ow : Nat → Bool} {w : Nat → Int} {M : Int}
/-- who is in a set from which the sparing player loses no more than f gives wins the game that stops -/
theorem gm_fin_win (hn : n ≤ 7) {S : Nat → Prop} {f : Nat → Int} (hS : ∀ v, S v → v < n) (h1 : ∀ v, S v → ow v = true → ∃ e ∈ adj v, S (tgt e) ∧ f (tgt e) ≤ f v + w e) (h2 : ∀ v, S v → ow v = false → ∀ e ∈ adj v, S (tgt e) ∧ f (tgt e) ≤ f v + w e) :
    ∀ (k : Nat) (π : List (Nat × Int)) (v : Nat) (s : Int), 8 ≤ k + π.length → gm_ok n π → S v → (∀ q ∈ π, f v ≤ f q.1 + (s - q.2)) → gm_win adj tgt ow w k π v s := by
  intro k
  induction k with
  | zero =>
    intro π v s hk hok
    have := gm_ok_len hok
    omega
  | succ k ih =>
    intro π v s hk hok hv hf
    cases hl : π.lookup v with
    | some s0 =>
      rw [gm_win_some hl]
      have := hf _ (gm_lookup_mem hl)
      simp only at this
      omega
    | none =>
      rw [gm_win_none hl]
      have step : ∀ e, S (tgt e) ∧ f (tgt e) ≤ f v + w e → gm_win adj tgt ow w k ((v, s) :: π) (tgt e) (s + w e) := by
        intro e he
        refine ih _ _ _ (by simp only [List.length_cons]; omega) (gm_ok_push hok (hS v hv) hl) he.1 ?_
        intro q hq
        rcases List.mem_cons.mp hq with rfl | hq
        · simp only
          omega
        · have := hf q hq
          omega
      refine ⟨fun ho => ?_, fun ho e he => step e (h2 v hv ho e he)⟩
      obtain ⟨e, he, h⟩ := h1 v hv ho
      exact ⟨e, he, step e h⟩
/-- a path on which every position is won -/
def gm_good (n : Nat) (adj : Nat → List Nat) (tgt : Nat → Nat) (ow : Nat → Bool) (w : Nat → Int) (M : Int) : List (Nat × Int) → Prop
  | [] => True
  | q :: π => gm_win adj tgt ow w (8 - π.length) π q.1 q.2 ∧ q.1 < n ∧ π.lookup q.1 = none ∧ -((π.length : Int) * M) ≤ q.2 ∧ gm_good n adj tgt ow w M π
theorem gm_good_ok : ∀ {π : List (Nat × Int)}, gm_good n adj tgt ow w M π → gm_ok n π
  | [], _ => ⟨List.nodup_nil, fun q h => by cases h⟩
  | _ :: _, h => gm_ok_push (gm_good_ok h.2.2.2.2) h.2.1 h.2.2.1
theorem gm_good_at : ∀ {π : List (Nat × Int)} {v : Nat} {s0 : Int}, gm_good n adj tgt ow w M π → π.lookup v = some s0 → ∃ π', gm_good n adj tgt ow w M ((v, s0) :: π')
  | [], v, s0, _, h => by simp at h
  | (u, su) :: π, v, s0, hg, h => by
    rw [List.lookup_cons] at h
    by_cases hv : v = u
    · subst hv
      simp at h
      subst h
      exact ⟨π, hg⟩
    · have h1 : (v == u) = false := by simpa using hv
      rw [h1] at h
      exact gm_good_at hg.2.2.2.2 h
theorem gm_good_next (hn : n ≤ 7) {π : List (Nat × Int)} {u : Nat} {s1 : Int} (hg : gm_good n adj tgt ow w M π) (hu : u < n) (hs : -((π.length : Int) * M) ≤ s1) (hw : gm_win adj tgt ow w (8 - π.length) π u s1) : ∃ s' π', gm_good n adj tgt ow w M ((u, s') :: π') ∧ s' ≤ s1 := by
  cases hl : π.lookup u with
  | some s0 =>
    obtain ⟨π', h⟩ := gm_good_at hg hl
    refine ⟨s0, π', h, ?_⟩
    have hlen := gm_ok_len (gm_good_ok hg)
    obtain ⟨k, hk⟩ : ∃ k, 8 - π.length = k + 1 := ⟨7 - π.length, by omega⟩
    rw [hk, gm_win_some hl] at hw
    exact hw
  | none => exact ⟨s1, π, ⟨hw, hu, hl, hs, hg⟩, Int.le_refl _⟩
theorem gm_good_step (hn : n ≤ 7) (hT : ∀ v, v < n → ∀ e ∈ adj v, tgt e < n) (hM : ∀ v, v < n → ∀ e ∈ adj v, -M ≤ w e) {π : List (Nat × Int)} {v : Nat} {s : Int} (hg : gm_good n adj tgt ow w M ((v, s) :: π)) :
    (ow v = true → ∃ e ∈ adj v, ∃ s' π', gm_good n adj tgt ow w M ((tgt e, s') :: π') ∧ s' ≤ s + w e) ∧ (ow v = false → ∀ e ∈ adj v, ∃ s' π', gm_good n adj tgt ow w M ((tgt e, s') :: π') ∧ s' ≤ s + w e) := by
  have hlen := gm_ok_len (gm_good_ok hg)
  simp only [List.length_cons] at hlen
  obtain ⟨hw, hv, hl, hs, hgr⟩ := id hg
  simp only at hw hv hl hs
  obtain ⟨k, hk⟩ : ∃ k, 8 - π.length = k + 1 := ⟨7 - π.length, by omega⟩
  have hk2 : k = 8 - ((v, s) :: π).length := by simp only [List.length_cons]; omega
  rw [hk, gm_win_none hl, hk2] at hw
  have step : ∀ e ∈ adj v, gm_win adj tgt ow w (8 - ((v, s) :: π).length) ((v, s) :: π) (tgt e) (s + w e) → ∃ s' π', gm_good n adj tgt ow w M ((tgt e, s') :: π') ∧ s' ≤ s + w e := by
    intro e he h
    refine gm_good_next hn hg (hT v hv e he) ?_ h
    have h1 := hM v hv e he
    have h2 : (((v, s) :: π).length : Int) * M = (π.length : Int) * M + M := by
      simp only [List.length_cons, Int.natCast_add, Int.natCast_one, Int.add_mul, Int.one_mul]
    rw [h2]
    omega
  refine ⟨fun ho => ?_, fun ho e he => step e he (hw.2 ho e he)⟩
  obtain ⟨e, he, h⟩ := hw.1 ho
  exact ⟨e, he, step e he h⟩
theorem gm_least (P : Nat → Prop) (h : ∃ k, P k) : ∃ k, P k ∧ ∀ j, P j → k ≤ j := by
  obtain ⟨k, hk⟩ := h
  have key : ∀ m, (∃ j, j ≤ m ∧ P j) → ∃ k, P k ∧ ∀ j, P j → k ≤ j := by
    intro m
    induction m with
    | zero =>
      rintro ⟨j, hj, hp⟩
      exact ⟨0, by rwa [show j = 0 by omega] at hp, fun _ _ => Nat.zero_le _⟩
    | succ m ih =>
      rintro ⟨j, hj, hp⟩
      by_cases hq : ∃ i, i ≤ m ∧ P i
      · exact ih hq
      · refine ⟨j, hp, fun i hi => ?_⟩
        rcases Nat.lt_or_ge i j with h | h
        · exact absurd ⟨i, by omega, hi⟩ hq
        · exact h
  exact key k ⟨k, Nat.le_refl k, hk⟩
/-- the won vertices have credits of at most (n - 1) * M that are enough -/
theorem gm_main (hn : n ≤ 7) (h0 : 0 ≤ M) (hT : ∀ v, v < n → ∀ e ∈ adj v, tgt e < n) (hM : ∀ v, v < n → ∀ e ∈ adj v, -M ≤ w e) :
    ∃ f : Nat → Int, ∀ v, v < n → gm_win adj tgt ow w 8 [] v 0 → (0 ≤ f v ∧ f v ≤ ((n : Int) - 1) * M) ∧ (ow v = true → ∃ e ∈ adj v, gm_win adj tgt ow w 8 [] (tgt e) 0 ∧ f (tgt e) ≤ f v + w e) ∧ (ow v = false → ∀ e ∈ adj v, gm_win adj tgt ow w 8 [] (tgt e) 0 ∧ f (tgt e) ≤ f v + w e) := by
  -- R v c: a good path ends in v with the sum c - C
  have hpos : ∀ v s π, gm_good n adj tgt ow w M ((v, s) :: π) → 0 ≤ s + ((n : Int) - 1) * M := by
    intro v s π hg
    have hlen := gm_ok_len (gm_good_ok hg)
    simp only [List.length_cons] at hlen
    have h1 : -((π.length : Int) * M) ≤ s := hg.2.2.2.1
    have h2 : (π.length : Int) * M ≤ ((n : Int) - 1) * M := Int.mul_le_mul_of_nonneg_right (by omega) h0
    omega
  let R : Nat → Nat → Prop := fun v c => ∃ s π, gm_good n adj tgt ow w M ((v, s) :: π) ∧ (c : Int) = s + ((n : Int) - 1) * M
  have hR : ∀ v s π, gm_good n adj tgt ow w M ((v, s) :: π) → R v (s + ((n : Int) - 1) * M).toNat := by
    intro v s π hg
    exact ⟨s, π, hg, Int.toNat_of_nonneg (hpos v s π hg)⟩
  have hex : ∀ v, ∃ c : Nat, (∃ c, R v c) → R v c ∧ ∀ j, R v j → c ≤ j := by
    intro v
    by_cases h : ∃ c, R v c
    · obtain ⟨c, h1, h2⟩ := gm_least (R v) h
      exact ⟨c, fun _ => ⟨h1, h2⟩⟩
    · exact ⟨0, fun h' => absurd h' h⟩
  obtain ⟨g, hg⟩ : ∃ g : Nat → Nat, ∀ v, (∃ c, R v c) → R v (g v) ∧ ∀ j, R v j → g v ≤ j := ⟨fun v => (hex v).choose, fun v => (hex v).choose_spec⟩
  have hnext : ∀ v e, (∃ c, R v c) → (∀ s π, gm_good n adj tgt ow w M ((v, s) :: π) → (s : Int) + ((n : Int) - 1) * M = g v → ∃ s' π', gm_good n adj tgt ow w M ((tgt e, s') :: π') ∧ s' ≤ s + w e) → (∃ c, R (tgt e) c) ∧ (g (tgt e) : Int) ≤ g v + w e := by
    intro v e hv h
    obtain ⟨⟨s, π, h1, h2⟩, h3⟩ := hg v hv
    obtain ⟨s', π', h4, h5⟩ := h s π h1 h2.symm
    have h6 := hR _ _ _ h4
    refine ⟨⟨_, h6⟩, ?_⟩
    have h7 := (hg (tgt e) ⟨_, h6⟩).2 _ h6
    have h8 := Int.toNat_of_nonneg (hpos _ _ _ h4)
    omega
  have hown : ∀ v, (∃ c, R v c) → ow v = true → ∃ e ∈ adj v, (∃ c, R (tgt e) c) ∧ (g (tgt e) : Int) ≤ g v + w e := by
    intro v hv ho
    obtain ⟨⟨s, π, h1, h2⟩, h3⟩ := hg v hv
    obtain ⟨e, he, s', π', h4, h5⟩ := (gm_good_step hn hT hM h1).1 ho
    have h6 := hR _ _ _ h4
    refine ⟨e, he, ⟨_, h6⟩, ?_⟩
    have h7 := (hg (tgt e) ⟨_, h6⟩).2 _ h6
    have h8 := Int.toNat_of_nonneg (hpos _ _ _ h4)
    omega
  have hopp : ∀ v, (∃ c, R v c) → ow v = false → ∀ e ∈ adj v, (∃ c, R (tgt e) c) ∧ (g (tgt e) : Int) ≤ g v + w e := by
    intro v hv ho e he
    exact hnext v e hv (fun s π h1 _ => (gm_good_step hn hT hM h1).2 ho e he)
  have hlt : ∀ v, (∃ c, R v c) → v < n := by
    rintro v ⟨c, s, π, h, -⟩
    exact h.2.1
  have hwin : ∀ v, (∃ c, R v c) → gm_win adj tgt ow w 8 [] v 0 := by
    intro v hv
    exact gm_fin_win hn (S := fun v => ∃ c, R v c) (f := fun v => (g v : Int)) hlt hown hopp 8 [] v 0 (by simp) ⟨List.nodup_nil, fun q h => by cases h⟩ hv (fun q h => by cases h)
  have hgd : ∀ v, v < n → gm_win adj tgt ow w 8 [] v 0 → R v (0 + ((n : Int) - 1) * M).toNat := by
    intro v hv hw
    exact hR v 0 [] ⟨hw, hv, rfl, by simp, trivial⟩
  refine ⟨fun v => (g v : Int), fun v hv hw => ?_⟩
  have hRv : ∃ c, R v c := ⟨_, hgd v hv hw⟩
  refine ⟨⟨by simp only; omega, ?_⟩, fun ho => ?_, fun ho e he => ?_⟩
  · have h1 := (hg v hRv).2 _ (hgd v hv hw)
    have h2 : 0 ≤ ((n : Int) - 1) * M := Int.mul_nonneg (by omega) h0
    simp only
    omega
  · obtain ⟨e, he, h1, h2⟩ := hown v hRv ho
    exact ⟨e, he, hwin _ h1, h2⟩
  · obtain ⟨h1, h2⟩ := hopp v hRv ho e he
    exact ⟨hwin _ h1, h2⟩
end GM
end
section
/-! ===== the value, in parts of 1/420: what the game that stops pays ===== -/
def gm_at : List (Nat × Int) → Nat → Option (Nat × Int)
  | [], _ => none
  | q :: π, v => if q.1 = v then some (1, q.2) else (gm_at π v).map (fun r => (r.1 + 1, r.2))
def gm_mx : List Int → Int
  | [] => -1000000
  | a :: l => max a (gm_mx l)
def gm_mn : List Int → Int
  | [] => 1000000
  | a :: l => min a (gm_mn l)
theorem gm_mx_mem : ∀ {l : List Int} {a : Int}, a ∈ l → a ≤ gm_mx l
  | [], a, h => by cases h
  | b :: l, a, h => by
    simp only [gm_mx]
    rcases List.mem_cons.mp h with rfl | h
    · omega
    · have := gm_mx_mem h
      omega
theorem gm_mn_mem : ∀ {l : List Int} {a : Int}, a ∈ l → gm_mn l ≤ a
  | [], a, h => by cases h
  | b :: l, a, h => by
    simp only [gm_mn]
    rcases List.mem_cons.mp h with rfl | h
    · omega
    · have := gm_mn_mem h
      omega
theorem gm_mx_or : ∀ (l : List Int), gm_mx l = -1000000 ∨ gm_mx l ∈ l
  | [] => Or.inl rfl
  | b :: l => by
    simp only [gm_mx]
    rcases Int.le_total b (gm_mx l) with h | h
    · rw [Int.max_eq_right h]
      rcases gm_mx_or l with h2 | h2
      · exact Or.inl h2
      · exact Or.inr (List.mem_cons_of_mem _ h2)
    · rw [Int.max_eq_left h]
      exact Or.inr List.mem_cons_self
theorem gm_mn_or : ∀ (l : List Int), gm_mn l = 1000000 ∨ gm_mn l ∈ l
  | [] => Or.inl rfl
  | b :: l => by
    simp only [gm_mn]
    rcases Int.le_total b (gm_mn l) with h | h
    · rw [Int.min_eq_left h]
      exact Or.inr List.mem_cons_self
    · rw [Int.min_eq_right h]
      rcases gm_mn_or l with h2 | h2
      · exact Or.inl h2
      · exact Or.inr (List.mem_cons_of_mem _ h2)
theorem gm_mx_in {l : List Int} (h : ∃ a ∈ l, -1000000 ≤ a) : gm_mx l ∈ l := by
  obtain ⟨a, h1, h2⟩ := h
  rcases gm_mx_or l with h3 | h3
  · have h4 := gm_mx_mem h1
    have h5 : a = gm_mx l := by omega
    rw [← h5]
    exact h1
  · exact h3
theorem gm_mn_in {l : List Int} (h : ∃ a ∈ l, a ≤ 1000000) : gm_mn l ∈ l := by
  obtain ⟨a, h1, h2⟩ := h
  rcases gm_mn_or l with h3 | h3
  · have h4 := gm_mn_mem h1
    have h5 : a = gm_mn l := by omega
    rw [← h5]
    exact h1
  · exact h3
def gm_pay (adj : Nat → List Nat) (tgt : Nat → Nat) (ow : Nat → Bool) (w : Nat → Int) : Nat → List (Nat × Int) → Nat → Int → Int
  | 0, _, _, _ => 0
  | k + 1, π, v, s => match gm_at π v with
    | some r => ((420 / r.1 : Nat) : Int) * (s - r.2)
    | none => if ow v = true then gm_mx ((adj v).map (fun e => gm_pay adj tgt ow w k ((v, s) :: π) (tgt e) (s + w e))) else gm_mn ((adj v).map (fun e => gm_pay adj tgt ow w k ((v, s) :: π) (tgt e) (s + w e)))
theorem gm_at_none {π : List (Nat × Int)} {v : Nat} : gm_at π v = none ↔ v ∉ π.map Prod.fst := by
  induction π with
  | nil => simp [gm_at]
  | cons q π ih =>
    simp only [gm_at, List.map_cons, List.mem_cons, not_or]
    by_cases h : q.1 = v
    · rw [if_pos h]
      simp [h]
    · rw [if_neg h, Option.map_eq_none_iff, ih]
      constructor
      · intro h2; exact ⟨fun h3 => h h3.symm, h2⟩
      · intro h2; exact h2.2
theorem gm_at_len : ∀ {π : List (Nat × Int)} {v d : Nat} {s0 : Int}, gm_at π v = some (d, s0) → 1 ≤ d ∧ d ≤ π.length
  | [], v, d, s0, h => by simp [gm_at] at h
  | q :: π, v, d, s0, h => by
    simp only [gm_at] at h
    by_cases hv : q.1 = v
    · rw [if_pos hv] at h
      simp only [Option.some.injEq, Prod.mk.injEq] at h
      simp only [List.length_cons]
      omega
    · rw [if_neg hv, Option.map_eq_some_iff] at h
      obtain ⟨⟨d1, s1⟩, h1, h2⟩ := h
      have := gm_at_len h1
      simp only [Prod.mk.injEq] at h2
      simp only [List.length_cons]
      omega
/-- the path in the game with the weights q * w - p -/
def gm_lift (p q : Int) : List (Nat × Int) → List (Nat × Int)
  | [] => []
  | x :: π => (x.1, q * x.2 - p * (π.length : Int)) :: gm_lift p q π
theorem gm_lift_len {p q : Int} : ∀ (π : List (Nat × Int)), (gm_lift p q π).length = π.length
  | [] => rfl
  | x :: π => by simp only [gm_lift, List.length_cons, gm_lift_len π]
theorem gm_lift_fst {p q : Int} : ∀ (π : List (Nat × Int)), (gm_lift p q π).map Prod.fst = π.map Prod.fst
  | [] => rfl
  | x :: π => by simp only [gm_lift, List.map_cons, gm_lift_fst π]
theorem gm_lift_none {p q : Int} {π : List (Nat × Int)} {v : Nat} (h : gm_at π v = none) : (gm_lift p q π).lookup v = none := by
  rw [gm_lookup_none, gm_lift_fst]
  exact gm_at_none.mp h
theorem gm_lift_some {p q : Int} : ∀ {π : List (Nat × Int)} {v d : Nat} {s0 : Int}, gm_at π v = some (d, s0) → (gm_lift p q π).lookup v = some (q * s0 - p * ((π.length : Int) - d))
  | [], v, d, s0, h => by simp [gm_at] at h
  | x :: π, v, d, s0, h => by
    simp only [gm_at] at h
    simp only [gm_lift, List.lookup_cons]
    by_cases hv : x.1 = v
    · rw [if_pos hv] at h
      simp only [Option.some.injEq, Prod.mk.injEq] at h
      obtain ⟨rfl, rfl⟩ := h
      have h1 : (v == x.1) = true := by simp [hv]
      rw [h1]
      simp only [List.length_cons]
      congr 1
      congr 2
      omega
    · rw [if_neg hv, Option.map_eq_some_iff] at h
      obtain ⟨⟨d1, s1⟩, h1, h2⟩ := h
      simp only [Prod.mk.injEq] at h2
      obtain ⟨rfl, rfl⟩ := h2
      have h3 : (v == x.1) = false := by simpa using fun h => hv h.symm
      rw [h3]
      simp only
      rw [gm_lift_some h1]
      simp only [List.length_cons]
      congr 1
      congr 2
      omega
theorem gm_ok_at {n : Nat} {π : List (Nat × Int)} {v : Nat} {s : Int} (h : gm_ok n π) (hv : v < n) (hl : gm_at π v = none) : gm_ok n ((v, s) :: π) := gm_ok_push h hv (gm_lookup_none.mpr (gm_at_none.mp hl))
theorem gm_mulq {a b q : Int} (hq : 0 < q) (h : a ≤ b) : a * q ≤ b * q := Int.mul_le_mul_of_nonneg_right h (by omega)
theorem gm_mx_ge {l : List Int} {t q : Int} (hq : 0 < q) (ht : -1000000 * q < t) : t ≤ gm_mx l * q ↔ ∃ a ∈ l, t ≤ a * q := by
  constructor
  · intro h
    rcases gm_mx_or l with h1 | h1
    · rw [h1] at h
      omega
    · exact ⟨_, h1, h⟩
  · rintro ⟨a, h1, h2⟩
    exact Int.le_trans h2 (gm_mulq hq (gm_mx_mem h1))
theorem gm_mn_ge {l : List Int} {t q : Int} (hq : 0 < q) (ht : t < 1000000 * q) : t ≤ gm_mn l * q ↔ ∀ a ∈ l, t ≤ a * q := by
  constructor
  · intro h a h1
    exact Int.le_trans h (gm_mulq hq (gm_mn_mem h1))
  · intro h
    rcases gm_mn_or l with h1 | h1
    · rw [h1]
      omega
    · exact h _ h1
theorem gm_mx_le {l : List Int} {t q : Int} (hq : 0 < q) (ht : -1000000 * q < t) : gm_mx l * q ≤ t ↔ ∀ a ∈ l, a * q ≤ t := by
  constructor
  · intro h a h1
    exact Int.le_trans (gm_mulq hq (gm_mx_mem h1)) h
  · intro h
    rcases gm_mx_or l with h1 | h1
    · rw [h1]
      omega
    · exact h _ h1
theorem gm_mn_le {l : List Int} {t q : Int} (hq : 0 < q) (ht : t < 1000000 * q) : gm_mn l * q ≤ t ↔ ∃ a ∈ l, a * q ≤ t := by
  constructor
  · intro h
    rcases gm_mn_or l with h1 | h1
    · rw [h1] at h
      omega
    · exact ⟨_, h1, h⟩
  · rintro ⟨a, h1, h2⟩
    exact Int.le_trans (gm_mulq hq (gm_mn_mem h1)) h2
theorem gm_leaf_ge {d : Nat} {p q x : Int} (h1 : 1 ≤ d) (h7 : d ≤ 7) : p * 420 ≤ ((420 / d : Nat) : Int) * x * q ↔ p * d ≤ q * x := by
  have e : ((420 / d : Nat) : Int) * x * q = ((420 / d : Nat) : Int) * (q * x) := by rw [Int.mul_assoc, Int.mul_comm x q]
  rw [e]
  generalize q * x = X
  rcases (show d = 1 ∨ d = 2 ∨ d = 3 ∨ d = 4 ∨ d = 5 ∨ d = 6 ∨ d = 7 by omega) with rfl | rfl | rfl | rfl | rfl | rfl | rfl <;> simp only [Nat.reduceDiv] <;> omega
theorem gm_leaf_le {d : Nat} {p q x : Int} (h1 : 1 ≤ d) (h7 : d ≤ 7) : ((420 / d : Nat) : Int) * x * q ≤ p * 420 ↔ q * x ≤ p * d := by
  have e : ((420 / d : Nat) : Int) * x * q = ((420 / d : Nat) : Int) * (q * x) := by rw [Int.mul_assoc, Int.mul_comm x q]
  rw [e]
  generalize q * x = X
  rcases (show d = 1 ∨ d = 2 ∨ d = 3 ∨ d = 4 ∨ d = 5 ∨ d = 6 ∨ d = 7 by omega) with rfl | rfl | rfl | rfl | rfl | rfl | rfl <;> simp only [Nat.reduceDiv] <;> omega
section GV
variable {n : Nat} {adj : Nat → List Nat} {tgt : Nat → Nat} {ow : Nat → Bool} {w : Nat → Int} {p q : Int}
/-- the value is p / q or more: the game with the weights q * w - p is won -/
theorem gm_pay_ge (hn : n ≤ 7) (hT : ∀ v, v < n → ∀ e ∈ adj v, tgt e < n) (hq : 0 < q) (hp1 : -1000000 * q < p * 420) (hp2 : p * 420 < 1000000 * q) : ∀ (k : Nat) (π : List (Nat × Int)) (v : Nat) (s : Int), 8 ≤ k + π.length → gm_ok n π → v < n →
    (p * 420 ≤ gm_pay adj tgt ow w k π v s * q ↔ gm_win adj tgt ow (fun e => q * w e - p) k (gm_lift p q π) v (q * s - p * (π.length : Int))) := by
  intro k
  induction k with
  | zero =>
    intro π v s hk hok
    have := gm_ok_len hok
    omega
  | succ k ih =>
    intro π v s hk hok hv
    have hlen := gm_ok_len hok
    cases ha : gm_at π v with
    | some r =>
      obtain ⟨d, s0⟩ := r
      have hd := gm_at_len ha
      rw [gm_win_some (gm_lift_some ha)]
      simp only [gm_pay, ha]
      rw [gm_leaf_ge hd.1 (by omega), Int.mul_sub, Int.mul_sub]
      omega
    | none =>
      rw [gm_win_none (gm_lift_none ha)]
      simp only [gm_pay, ha]
      have step : ∀ e ∈ adj v, (p * 420 ≤ gm_pay adj tgt ow w k ((v, s) :: π) (tgt e) (s + w e) * q ↔ gm_win adj tgt ow (fun e => q * w e - p) k ((v, q * s - p * (π.length : Int)) :: gm_lift p q π) (tgt e) (q * s - p * (π.length : Int) + (q * w e - p))) := by
        intro e he
        rw [ih ((v, s) :: π) (tgt e) (s + w e) (by simp only [List.length_cons]; omega) (gm_ok_at hok hv ha) (hT v hv e he)]
        have e1 : q * (s + w e) - p * (((v, s) :: π).length : Int) = q * s - p * (π.length : Int) + (q * w e - p) := by
          simp only [List.length_cons, Int.natCast_add, Int.natCast_one, Int.mul_add, Int.mul_one]
          omega
        rw [e1]
        rfl
      cases ho : ow v with
      | true =>
        simp only [if_true, forall_const, reduceCtorEq, false_implies, and_true, ite_true]
        rw [gm_mx_ge hq hp1]
        constructor
        · rintro ⟨a, h1, h2⟩
          obtain ⟨e, he, rfl⟩ := List.mem_map.mp h1
          exact ⟨e, he, (step e he).mp h2⟩
        · rintro ⟨e, he, h2⟩
          exact ⟨_, List.mem_map.mpr ⟨e, he, rfl⟩, (step e he).mpr h2⟩
      | false =>
        simp only [reduceCtorEq, false_implies, true_and, forall_const, if_false, ite_false, Bool.false_eq_true]
        rw [gm_mn_ge hq hp2]
        constructor
        · intro h e he
          exact (step e he).mp (h _ (List.mem_map.mpr ⟨e, he, rfl⟩))
        · intro h a h1
          obtain ⟨e, he, rfl⟩ := List.mem_map.mp h1
          exact (step e he).mpr (h e he)
/-- the value is p / q or less: the same, the players' places changed -/
theorem gm_pay_le (hn : n ≤ 7) (hT : ∀ v, v < n → ∀ e ∈ adj v, tgt e < n) (hq : 0 < q) (hp1 : -1000000 * q < p * 420) (hp2 : p * 420 < 1000000 * q) : ∀ (k : Nat) (π : List (Nat × Int)) (v : Nat) (s : Int), 8 ≤ k + π.length → gm_ok n π → v < n →
    (gm_pay adj tgt ow w k π v s * q ≤ p * 420 ↔ gm_win adj tgt (fun v => !ow v) (fun e => (-q) * w e - (-p)) k (gm_lift (-p) (-q) π) v ((-q) * s - (-p) * (π.length : Int))) := by
  intro k
  induction k with
  | zero =>
    intro π v s hk hok
    have := gm_ok_len hok
    omega
  | succ k ih =>
    intro π v s hk hok hv
    have hlen := gm_ok_len hok
    cases ha : gm_at π v with
    | some r =>
      obtain ⟨d, s0⟩ := r
      have hd := gm_at_len ha
      rw [gm_win_some (gm_lift_some ha)]
      simp only [gm_pay, ha]
      rw [gm_leaf_le hd.1 (by omega), Int.mul_sub, Int.mul_sub, Int.neg_mul, Int.neg_mul, Int.neg_mul, Int.neg_mul]
      omega
    | none =>
      rw [gm_win_none (gm_lift_none ha)]
      simp only [gm_pay, ha]
      have step : ∀ e ∈ adj v, (gm_pay adj tgt ow w k ((v, s) :: π) (tgt e) (s + w e) * q ≤ p * 420 ↔ gm_win adj tgt (fun v => !ow v) (fun e => (-q) * w e - (-p)) k ((v, (-q) * s - (-p) * (π.length : Int)) :: gm_lift (-p) (-q) π) (tgt e) ((-q) * s - (-p) * (π.length : Int) + ((-q) * w e - (-p)))) := by
        intro e he
        rw [ih ((v, s) :: π) (tgt e) (s + w e) (by simp only [List.length_cons]; omega) (gm_ok_at hok hv ha) (hT v hv e he)]
        have e1 : (-q) * (s + w e) - (-p) * (((v, s) :: π).length : Int) = (-q) * s - (-p) * (π.length : Int) + ((-q) * w e - (-p)) := by
          simp only [List.length_cons, Int.natCast_add, Int.natCast_one, Int.mul_add, Int.mul_one]
          omega
        rw [e1]
        rfl
      cases ho : ow v with
      | true =>
        simp only [if_true, forall_const, reduceCtorEq, false_implies, true_and, ite_true, Bool.not_true, Bool.false_eq_true]
        rw [gm_mx_le hq hp1]
        constructor
        · intro h e he
          exact (step e he).mp (h _ (List.mem_map.mpr ⟨e, he, rfl⟩))
        · intro h a h1
          obtain ⟨e, he, rfl⟩ := List.mem_map.mp h1
          exact (step e he).mpr (h e he)
      | false =>
        simp only [reduceCtorEq, false_implies, and_true, forall_const, if_false, ite_false, Bool.false_eq_true, Bool.not_false]
        rw [gm_mn_le hq hp2]
        constructor
        · rintro ⟨a, h1, h2⟩
          obtain ⟨e, he, rfl⟩ := List.mem_map.mp h1
          exact ⟨e, he, (step e he).mp h2⟩
        · rintro ⟨e, he, h2⟩
          exact ⟨_, List.mem_map.mpr ⟨e, he, rfl⟩, (step e he).mpr h2⟩
/-- the path's sums move by at most 9 an edge -/
def gm_near (π : List (Nat × Int)) (s : Int) : Prop := ∀ (u d : Nat) (s0 : Int), gm_at π u = some (d, s0) → -(9 * (d : Int)) ≤ s - s0 ∧ s - s0 ≤ 9 * (d : Int)
theorem gm_near_push {π : List (Nat × Int)} {v : Nat} {s x : Int} (h : gm_near π s) (h1 : -9 ≤ x) (h2 : x ≤ 9) : gm_near ((v, s) :: π) (s + x) := by
  intro u d s0 hu
  simp only [gm_at] at hu
  by_cases hv : v = u
  · rw [if_pos hv] at hu
    simp only [Option.some.injEq, Prod.mk.injEq] at hu
    obtain ⟨rfl, rfl⟩ := hu
    omega
  · rw [if_neg hv, Option.map_eq_some_iff] at hu
    obtain ⟨⟨d1, s1⟩, h3, h4⟩ := hu
    simp only [Prod.mk.injEq] at h4
    obtain ⟨rfl, rfl⟩ := h4
    have := h u d1 s1 h3
    omega
theorem gm_leaf_bd {d : Nat} {x : Int} (h1 : 1 ≤ d) (h7 : d ≤ 7) (h2 : -(9 * (d : Int)) ≤ x) (h3 : x ≤ 9 * (d : Int)) : -3780 ≤ ((420 / d : Nat) : Int) * x ∧ ((420 / d : Nat) : Int) * x ≤ 3780 := by
  rcases (show d = 1 ∨ d = 2 ∨ d = 3 ∨ d = 4 ∨ d = 5 ∨ d = 6 ∨ d = 7 by omega) with rfl | rfl | rfl | rfl | rfl | rfl | rfl <;> simp only [Nat.reduceDiv] <;> omega
/-- what is paid is the average of a loop -/
theorem gm_pay_form (hn : n ≤ 7) (hA : ∀ v, v < n → adj v ≠ []) (hT : ∀ v, v < n → ∀ e ∈ adj v, tgt e < n) (hW : ∀ v, v < n → ∀ e ∈ adj v, -9 ≤ w e ∧ w e ≤ 9) : ∀ (k : Nat) (π : List (Nat × Int)) (v : Nat) (s : Int), 8 ≤ k + π.length → gm_ok n π → v < n → gm_near π s →
    ∃ (d : Nat) (x : Int), 1 ≤ d ∧ d ≤ n ∧ -(9 * (d : Int)) ≤ x ∧ x ≤ 9 * (d : Int) ∧ gm_pay adj tgt ow w k π v s = ((420 / d : Nat) : Int) * x := by
  intro k
  induction k with
  | zero =>
    intro π v s hk hok
    have := gm_ok_len hok
    omega
  | succ k ih =>
    intro π v s hk hok hv hne
    have hlen := gm_ok_len hok
    cases ha : gm_at π v with
    | some r =>
      obtain ⟨d, s0⟩ := r
      have hd := gm_at_len ha
      have h1 := hne v d s0 ha
      refine ⟨d, s - s0, hd.1, by omega, h1.1, h1.2, ?_⟩
      simp only [gm_pay, ha]
    | none =>
      simp only [gm_pay, ha]
      have step : ∀ e ∈ adj v, ∃ (d : Nat) (x : Int), 1 ≤ d ∧ d ≤ n ∧ -(9 * (d : Int)) ≤ x ∧ x ≤ 9 * (d : Int) ∧ gm_pay adj tgt ow w k ((v, s) :: π) (tgt e) (s + w e) = ((420 / d : Nat) : Int) * x := fun e he =>
        ih ((v, s) :: π) (tgt e) (s + w e) (by simp only [List.length_cons]; omega) (gm_ok_at hok hv ha) (hT v hv e he) (gm_near_push hne (hW v hv e he).1 (hW v hv e he).2)
      obtain ⟨e0, he0⟩ : ∃ e, e ∈ adj v := List.exists_mem_of_ne_nil _ (hA v hv)
      obtain ⟨d0, x0, g1, g2, g3, g4, g5⟩ := step e0 he0
      have hb := gm_leaf_bd g1 (by omega) g3 g4
      rw [← g5] at hb
      split
      · have hin := gm_mx_in (l := (adj v).map (fun e => gm_pay adj tgt ow w k ((v, s) :: π) (tgt e) (s + w e))) ⟨_, List.mem_map.mpr ⟨e0, he0, rfl⟩, by omega⟩
        obtain ⟨e, he, h⟩ := List.mem_map.mp hin
        rw [← h]
        exact step e he
      · have hin := gm_mn_in (l := (adj v).map (fun e => gm_pay adj tgt ow w k ((v, s) :: π) (tgt e) (s + w e))) ⟨_, List.mem_map.mpr ⟨e0, he0, rfl⟩, by omega⟩
        obtain ⟨e, he, h⟩ := List.mem_map.mp hin
        rw [← h]
        exact step e he
theorem gm_pay_bd (hn : n ≤ 7) (hA : ∀ v, v < n → adj v ≠ []) (hT : ∀ v, v < n → ∀ e ∈ adj v, tgt e < n) (hW : ∀ v, v < n → ∀ e ∈ adj v, -9 ≤ w e ∧ w e ≤ 9) {k : Nat} {π : List (Nat × Int)} {v : Nat} {s : Int} (hk : 8 ≤ k + π.length) (hok : gm_ok n π) (hv : v < n) (hne : gm_near π s) :
    -3780 ≤ gm_pay adj tgt ow w k π v s ∧ gm_pay adj tgt ow w k π v s ≤ 3780 := by
  obtain ⟨d, x, h1, h2, h3, h4, h5⟩ := gm_pay_form (ow := ow) hn hA hT hW k π v s hk hok hv hne
  rw [h5]
  exact gm_leaf_bd h1 (by omega) h3 h4
end GV
end
section
/-! ===== k moves: the sum of the weights stays near k times the value; the nearest fraction ===== -/
/-- what k moves bring -/
def gm_vi (adj : Nat → List Nat) (tgt : Nat → Nat) (ow : Nat → Bool) (w : Nat → Int) : Nat → Nat → Int
  | 0, _ => 0
  | k + 1, v => if ow v = true then gm_mx ((adj v).map (fun e => w e + gm_vi adj tgt ow w k (tgt e))) else gm_mn ((adj v).map (fun e => w e + gm_vi adj tgt ow w k (tgt e)))
section GB
variable {n : Nat} {adj : Nat → List Nat} {tgt : Nat → Nat} {ow : Nat → Bool} {w : Nat → Int}
theorem gm_vi_bd (hA : ∀ v, v < n → adj v ≠ []) (hT : ∀ v, v < n → ∀ e ∈ adj v, tgt e < n) (hW : ∀ v, v < n → ∀ e ∈ adj v, -9 ≤ w e ∧ w e ≤ 9) : ∀ (k : Nat), k ≤ 100000 → ∀ v, v < n → -(9 * (k : Int)) ≤ gm_vi adj tgt ow w k v ∧ gm_vi adj tgt ow w k v ≤ 9 * (k : Int) := by
  intro k
  induction k with
  | zero => intro _ v _; simp [gm_vi]
  | succ k ih =>
    intro hk v hv
    have step : ∀ e ∈ adj v, -(9 * ((k + 1 : Nat) : Int)) ≤ w e + gm_vi adj tgt ow w k (tgt e) ∧ w e + gm_vi adj tgt ow w k (tgt e) ≤ 9 * ((k + 1 : Nat) : Int) := by
      intro e he
      have h1 := ih (by omega) (tgt e) (hT v hv e he)
      have h2 := hW v hv e he
      omega
    obtain ⟨e0, he0⟩ : ∃ e, e ∈ adj v := List.exists_mem_of_ne_nil _ (hA v hv)
    have h0 := step e0 he0
    simp only [gm_vi]
    split
    · have hin := gm_mx_in (l := (adj v).map (fun e => w e + gm_vi adj tgt ow w k (tgt e))) ⟨_, List.mem_map.mpr ⟨e0, he0, rfl⟩, by omega⟩
      obtain ⟨e, he, h⟩ := List.mem_map.mp hin
      rw [← h]
      exact step e he
    · have hin := gm_mn_in (l := (adj v).map (fun e => w e + gm_vi adj tgt ow w k (tgt e))) ⟨_, List.mem_map.mpr ⟨e0, he0, rfl⟩, by omega⟩
      obtain ⟨e, he, h⟩ := List.mem_map.mp hin
      rw [← h]
      exact step e he
theorem gm_vi_in (hA : ∀ v, v < n → adj v ≠ []) (hT : ∀ v, v < n → ∀ e ∈ adj v, tgt e < n) (hW : ∀ v, v < n → ∀ e ∈ adj v, -9 ≤ w e ∧ w e ≤ 9) {k : Nat} (hk : k < 100000) {v : Nat} (hv : v < n) : ∃ e ∈ adj v, gm_vi adj tgt ow w (k + 1) v = w e + gm_vi adj tgt ow w k (tgt e) := by
  obtain ⟨e0, he0⟩ : ∃ e, e ∈ adj v := List.exists_mem_of_ne_nil _ (hA v hv)
  have h1 := gm_vi_bd (ow := ow) hA hT hW k (by omega) (tgt e0) (hT v hv e0 he0)
  have h2 := hW v hv e0 he0
  simp only [gm_vi]
  split
  · have hin := gm_mx_in (l := (adj v).map (fun e => w e + gm_vi adj tgt ow w k (tgt e))) ⟨_, List.mem_map.mpr ⟨e0, he0, rfl⟩, by omega⟩
    obtain ⟨e, he, h⟩ := List.mem_map.mp hin
    exact ⟨e, he, h.symm⟩
  · have hin := gm_mn_in (l := (adj v).map (fun e => w e + gm_vi adj tgt ow w k (tgt e))) ⟨_, List.mem_map.mpr ⟨e0, he0, rfl⟩, by omega⟩
    obtain ⟨e, he, h⟩ := List.mem_map.mp hin
    exact ⟨e, he, h.symm⟩
/-- from a vertex that is won at p / q, k moves bring no less than k * p / q, but for what its credit takes -/
theorem gm_vi_low (hA : ∀ v, v < n → adj v ≠ []) (hT : ∀ v, v < n → ∀ e ∈ adj v, tgt e < n) (hW : ∀ v, v < n → ∀ e ∈ adj v, -9 ≤ w e ∧ w e ≤ 9) {p q : Int} (hq : 0 < q) {S : Nat → Prop} {f : Nat → Int} (hf0 : ∀ v, v < n → S v → 0 ≤ f v)
    (h1 : ∀ v, v < n → S v → ow v = true → ∃ e ∈ adj v, S (tgt e) ∧ f (tgt e) ≤ f v + (q * w e - p)) (h2 : ∀ v, v < n → S v → ow v = false → ∀ e ∈ adj v, S (tgt e) ∧ f (tgt e) ≤ f v + (q * w e - p)) :
    ∀ k, k ≤ 100000 → ∀ v, v < n → S v → -(f v) ≤ q * gm_vi adj tgt ow w k v - p * (k : Int) := by
  intro k
  induction k with
  | zero =>
    intro _ v hv hS
    have := hf0 v hv hS
    simp only [gm_vi]
    omega
  | succ k ih =>
    intro hk v hv hS
    have step : ∀ e ∈ adj v, S (tgt e) ∧ f (tgt e) ≤ f v + (q * w e - p) → -(f v) ≤ q * (w e + gm_vi adj tgt ow w k (tgt e)) - p * ((k + 1 : Nat) : Int) := by
      intro e he h
      have h3 := ih (by omega) (tgt e) (hT v hv e he) h.1
      have e1 : p * ((k + 1 : Nat) : Int) = p * (k : Int) + p := by simp only [Int.natCast_add, Int.natCast_one, Int.mul_add, Int.mul_one]
      rw [e1, Int.mul_add]
      omega
    cases ho : ow v with
    | true =>
      obtain ⟨e, he, h⟩ := h1 v hv hS ho
      have h3 := step e he h
      have h4 : w e + gm_vi adj tgt ow w k (tgt e) ≤ gm_vi adj tgt ow w (k + 1) v := by
        simp only [gm_vi, ho, if_true]
        exact gm_mx_mem (List.mem_map.mpr ⟨e, he, rfl⟩)
      have h5 := Int.mul_le_mul_of_nonneg_left h4 (show 0 ≤ q by omega)
      omega
    | false =>
      obtain ⟨e, he, h⟩ := gm_vi_in (ow := ow) hA hT hW (k := k) (by omega) hv
      rw [h]
      exact step e he (h2 v hv hS ho e he)
theorem gm_vi_up (hA : ∀ v, v < n → adj v ≠ []) (hT : ∀ v, v < n → ∀ e ∈ adj v, tgt e < n) (hW : ∀ v, v < n → ∀ e ∈ adj v, -9 ≤ w e ∧ w e ≤ 9) {p q : Int} (hq : 0 < q) {S : Nat → Prop} {f : Nat → Int} (hf0 : ∀ v, v < n → S v → 0 ≤ f v)
    (h1 : ∀ v, v < n → S v → ow v = false → ∃ e ∈ adj v, S (tgt e) ∧ f (tgt e) ≤ f v + ((-q) * w e - (-p))) (h2 : ∀ v, v < n → S v → ow v = true → ∀ e ∈ adj v, S (tgt e) ∧ f (tgt e) ≤ f v + ((-q) * w e - (-p))) :
    ∀ k, k ≤ 100000 → ∀ v, v < n → S v → q * gm_vi adj tgt ow w k v - p * (k : Int) ≤ f v := by
  intro k
  induction k with
  | zero =>
    intro _ v hv hS
    have := hf0 v hv hS
    simp only [gm_vi]
    omega
  | succ k ih =>
    intro hk v hv hS
    have step : ∀ e ∈ adj v, S (tgt e) ∧ f (tgt e) ≤ f v + ((-q) * w e - (-p)) → q * (w e + gm_vi adj tgt ow w k (tgt e)) - p * ((k + 1 : Nat) : Int) ≤ f v := by
      intro e he h
      have h3 := ih (by omega) (tgt e) (hT v hv e he) h.1
      have h4 := h.2
      rw [Int.neg_mul] at h4
      have e1 : p * ((k + 1 : Nat) : Int) = p * (k : Int) + p := by simp only [Int.natCast_add, Int.natCast_one, Int.mul_add, Int.mul_one]
      rw [e1, Int.mul_add]
      omega
    cases ho : ow v with
    | false =>
      obtain ⟨e, he, h⟩ := h1 v hv hS ho
      have h3 := step e he h
      have h4 : gm_vi adj tgt ow w (k + 1) v ≤ w e + gm_vi adj tgt ow w k (tgt e) := by
        simp only [gm_vi, ho, Bool.false_eq_true, if_false]
        exact gm_mn_mem (List.mem_map.mpr ⟨e, he, rfl⟩)
      have h5 := Int.mul_le_mul_of_nonneg_left h4 (show 0 ≤ q by omega)
      omega
    | true =>
      obtain ⟨e, he, h⟩ := gm_vi_in (ow := ow) hA hT hW (k := k) (by omega) hv
      rw [h]
      exact step e he (h2 v hv hS ho e he)
theorem gm_bnot_t {b : Bool} (h : (!b) = true) : b = false := by cases b <;> simp_all
theorem gm_bnot_f {b : Bool} (h : (!b) = false) : b = true := by cases b <;> simp_all
/-- k moves bring k times the value, but for 18 * (n - 1) -/
theorem gm_vi_near (hn : n ≤ 7) (hA : ∀ v, v < n → adj v ≠ []) (hT : ∀ v, v < n → ∀ e ∈ adj v, tgt e < n) (hW : ∀ v, v < n → ∀ e ∈ adj v, -9 ≤ w e ∧ w e ≤ 9) {k : Nat} (hk : k ≤ 100000) {v : Nat} (hv : v < n) :
    -(((n : Int) - 1) * 7560) ≤ 420 * gm_vi adj tgt ow w k v - gm_pay adj tgt ow w 8 [] v 0 * (k : Int) ∧ 420 * gm_vi adj tgt ow w k v - gm_pay adj tgt ow w 8 [] v 0 * (k : Int) ≤ ((n : Int) - 1) * 7560 := by
  have hok : gm_ok n [] := ⟨List.nodup_nil, fun q h => by cases h⟩
  have hb := gm_pay_bd (ow := ow) (k := 8) (π := []) (s := 0) hn hA hT hW (by simp) hok hv (fun u d s0 h => by simp [gm_at] at h)
  generalize hP : gm_pay adj tgt ow w 8 [] v 0 = P at hb ⊢
  constructor
  · have hwin := (gm_pay_ge (ow := ow) (w := w) (p := P) (q := 420) hn hT (by omega) (by omega) (by omega) 8 [] v 0 (by simp) hok hv).mp (by rw [hP]; omega)
    have hwin : gm_win adj tgt ow (fun e => 420 * w e - P) 8 [] v 0 := by simpa [gm_lift] using hwin
    obtain ⟨f, hf⟩ := gm_main (ow := ow) (w := fun e => 420 * w e - P) (M := 7560) hn (by omega) hT (fun v hv e he => by have := hW v hv e he; omega)
    have h3 := gm_vi_low (ow := ow) hA hT hW (p := P) (q := 420) (by omega) (S := fun u => gm_win adj tgt ow (fun e => 420 * w e - P) 8 [] u 0) (f := f) (fun u hu hS => (hf u hu hS).1.1) (fun u hu hS => (hf u hu hS).2.1) (fun u hu hS => (hf u hu hS).2.2) k hk v hv hwin
    have h4 := (hf v hv hwin).1.2
    omega
  · have hwin := (gm_pay_le (ow := ow) (w := w) (p := P) (q := 420) hn hT (by omega) (by omega) (by omega) 8 [] v 0 (by simp) hok hv).mp (by rw [hP]; omega)
    have hwin : gm_win adj tgt (fun v => !ow v) (fun e => (-420) * w e - (-P)) 8 [] v 0 := by simpa [gm_lift] using hwin
    obtain ⟨f, hf⟩ := gm_main (ow := fun v => !ow v) (w := fun e => (-420) * w e - (-P)) (M := 7560) hn (by omega) hT (fun v hv e he => by have := hW v hv e he; omega)
    have h3 := gm_vi_up (ow := ow) hA hT hW (p := P) (q := 420) (by omega) (S := fun u => gm_win adj tgt (fun v => !ow v) (fun e => (-420) * w e - (-P)) 8 [] u 0) (f := f) (fun u hu hS => (hf u hu hS).1.1) (fun u hu hS ho => (hf u hu hS).2.1 (by simp [ho])) (fun u hu hS ho => (hf u hu hS).2.2 (by simp [ho])) k hk v hv hwin
    have h4 := (hf v hv hwin).1.2
    omega
end GB
/-- a fraction of the right kind lies nearest: |p * st - V * q| / q is least at p0 / q0 alone -/
theorem gm_nearest {n st : Nat} {V P p0 p : Int} {q0 q : Nat} (hn : 1 ≤ n) (hst : st = 36 * n * n * n + 1) (h1 : -(((n : Int) - 1) * 7560) ≤ 420 * V - P * (st : Int)) (h2 : 420 * V - P * (st : Int) ≤ ((n : Int) - 1) * 7560)
    (hq0 : 1 ≤ q0) (hq0n : q0 ≤ n) (hP : P * (q0 : Int) = 420 * p0) (hq : 1 ≤ q) (hqn : q ≤ n) (hne : p * (q0 : Int) ≠ p0 * (q : Int)) :
    ((p0 * (st : Int) - V * (q0 : Int)).natAbs : Int) * (q : Int) < ((p * (st : Int) - V * (q : Int)).natAbs : Int) * (q0 : Int) := by
  -- off0 = p0 * st - V * q0, |off0| ≤ q0 * (n - 1) * 18
  have e0 : 420 * (p0 * (st : Int) - V * (q0 : Int)) = -((420 * V - P * (st : Int)) * (q0 : Int)) := by
    have : 420 * (p0 * (st : Int)) = P * (q0 : Int) * (st : Int) := by rw [hP, Int.mul_assoc]
    rw [Int.mul_sub, this, Int.sub_mul]
    have e2 : P * (st : Int) * (q0 : Int) = P * (q0 : Int) * (st : Int) := by rw [Int.mul_assoc, Int.mul_comm (st : Int), ← Int.mul_assoc]
    have e4 : 420 * V * (q0 : Int) = 420 * (V * (q0 : Int)) := Int.mul_assoc _ _ _
    rw [e2, e4]
    omega
  generalize hD : 420 * V - P * (st : Int) = D at e0 h1 h2
  have hq0' : (0 : Int) ≤ (q0 : Int) := by omega
  have b1 : -(((n : Int) - 1) * 7560) * (q0 : Int) ≤ D * (q0 : Int) := Int.mul_le_mul_of_nonneg_right h1 hq0'
  have b2 : D * (q0 : Int) ≤ ((n : Int) - 1) * 7560 * (q0 : Int) := Int.mul_le_mul_of_nonneg_right h2 hq0'
  have e3 : ((n : Int) - 1) * 7560 * (q0 : Int) = 7560 * (((n : Int) - 1) * (q0 : Int)) := by
    rw [Int.mul_comm ((n : Int) - 1) 7560, Int.mul_assoc]
  rw [Int.neg_mul, e3] at b1
  rw [e3] at b2
  generalize hX : ((n : Int) - 1) * (q0 : Int) = X at b1 b2
  generalize hO : p0 * (st : Int) - V * (q0 : Int) = O at e0 ⊢
  have c1 : -(18 * X) ≤ O := by omega
  have c2 : O ≤ 18 * X := by omega
  -- the other one
  have e5 : (p * (st : Int) - V * (q : Int)) * (q0 : Int) = (st : Int) * (p * (q0 : Int) - p0 * (q : Int)) + O * (q : Int) := by
    rw [← hO]
    simp only [Int.sub_mul, Int.mul_sub]
    have a1 : p * (st : Int) * (q0 : Int) = (st : Int) * (p * (q0 : Int)) := by rw [Int.mul_comm p, Int.mul_assoc]
    have a2 : V * (q : Int) * (q0 : Int) = V * (q0 : Int) * (q : Int) := by rw [Int.mul_assoc, Int.mul_comm (q : Int), ← Int.mul_assoc]
    have a3 : p0 * (st : Int) * (q : Int) = (st : Int) * (p0 * (q : Int)) := by rw [Int.mul_comm p0, Int.mul_assoc]
    rw [a1, a2, a3]
    omega
  have hq' : (0 : Int) ≤ (q : Int) := by omega
  have d1 : -(18 * X) * (q : Int) ≤ O * (q : Int) := Int.mul_le_mul_of_nonneg_right c1 hq'
  have d2 : O * (q : Int) ≤ 18 * X * (q : Int) := Int.mul_le_mul_of_nonneg_right c2 hq'
  have e6 : 18 * X * (q : Int) = 18 * (X * (q : Int)) := Int.mul_assoc _ _ _
  rw [Int.neg_mul, e6] at d1
  rw [e6] at d2
  -- X * q ≤ (n - 1) * n * n
  have hXq : X * (q : Int) ≤ ((n : Int) - 1) * (n : Int) * (n : Int) := by
    rw [← hX]
    have f1 : ((n : Int) - 1) * (q0 : Int) ≤ ((n : Int) - 1) * (n : Int) := Int.mul_le_mul_of_nonneg_left (by omega) (by omega)
    have f2 : ((n : Int) - 1) * (q0 : Int) * (q : Int) ≤ ((n : Int) - 1) * (n : Int) * (q : Int) := Int.mul_le_mul_of_nonneg_right f1 hq'
    have f3 : ((n : Int) - 1) * (n : Int) * (q : Int) ≤ ((n : Int) - 1) * (n : Int) * (n : Int) := Int.mul_le_mul_of_nonneg_left (by omega) (Int.mul_nonneg (by omega) (by omega))
    omega
  have hst' : (st : Int) = 36 * ((n : Int) * (n : Int) * (n : Int)) + 1 := by
    rw [hst]
    simp only [Int.natCast_add, Int.natCast_mul, Int.natCast_one, Int.mul_assoc]
    rfl
  have hnn : ((n : Int) - 1) * (n : Int) * (n : Int) ≤ (n : Int) * (n : Int) * (n : Int) := by
    have g1 : ((n : Int) - 1) * (n : Int) ≤ (n : Int) * (n : Int) := Int.mul_le_mul_of_nonneg_right (by omega) (by omega)
    exact Int.mul_le_mul_of_nonneg_right g1 (by omega)
  generalize X * (q : Int) = Y at d1 d2 hXq
  generalize (n : Int) * (n : Int) * (n : Int) = N3 at hst' hnn
  have hY : 36 * Y < (st : Int) := by omega
  -- |st * z| ≥ st
  have hz : p * (q0 : Int) - p0 * (q : Int) ≠ 0 := fun h => hne (by omega)
  generalize p * (q0 : Int) - p0 * (q : Int) = z at hz e5
  have hstz : (st : Int) ≤ (st : Int) * z ∨ (st : Int) * z ≤ -(st : Int) := by
    rcases Int.lt_or_gt_of_ne hz with h | h
    · right
      have : (st : Int) * z ≤ (st : Int) * (-1) := Int.mul_le_mul_of_nonneg_left (by omega) (by omega)
      omega
    · left
      have : (st : Int) * 1 ≤ (st : Int) * z := Int.mul_le_mul_of_nonneg_left (by omega) (by omega)
      omega
  generalize (st : Int) * z = Z at e5 hstz
  have m1 : ((O.natAbs : Nat) : Int) * (q : Int) = ((O * (q : Int)).natAbs : Int) := by
    rw [Int.natAbs_mul, Int.natCast_mul, Int.natAbs_natCast]
  have m2 : ((p * (st : Int) - V * (q : Int)).natAbs : Int) * (q0 : Int) = (((p * (st : Int) - V * (q : Int)) * (q0 : Int)).natAbs : Int) := by
    rw [Int.natAbs_mul, Int.natCast_mul, Int.natAbs_natCast]
  rw [m1, m2, e5]
  generalize O * (q : Int) = U at d1 d2 ⊢
  omega
end
section
/-! ===== credits: the least numbers that are enough ===== -/
/-- f is enough, on the won vertices -/
def gm_pre (n : Nat) (adj : Nat → List Nat) (tgt : Nat → Nat) (ow : Nat → Bool) (w : Nat → Int) (f : Nat → Int) : Prop :=
  ∀ v, v < n → gm_win adj tgt ow w 8 [] v 0 → 0 ≤ f v ∧ (ow v = true → ∃ e ∈ adj v, gm_win adj tgt ow w 8 [] (tgt e) 0 ∧ f (tgt e) ≤ f v + w e) ∧ (ow v = false → ∀ e ∈ adj v, gm_win adj tgt ow w 8 [] (tgt e) 0 → f (tgt e) ≤ f v + w e)
/-- f is the credit: -1 where there is none -/
def gm_isCr (n : Nat) (adj : Nat → List Nat) (tgt : Nat → Nat) (ow : Nat → Bool) (w : Nat → Int) (f : Nat → Int) : Prop :=
  (∀ v, v < n → ¬ gm_win adj tgt ow w 8 [] v 0 → f v = -1) ∧ gm_pre n adj tgt ow w f ∧ ∀ f', gm_pre n adj tgt ow w f' → ∀ v, v < n → gm_win adj tgt ow w 8 [] v 0 → f v ≤ f' v
theorem gm_isCr_uniq {n : Nat} {adj : Nat → List Nat} {tgt : Nat → Nat} {ow : Nat → Bool} {w f g : Nat → Int} (hf : gm_isCr n adj tgt ow w f) (hg : gm_isCr n adj tgt ow w g) {v : Nat} (hv : v < n) : f v = g v := by
  by_cases h : gm_win adj tgt ow w 8 [] v 0
  · have h1 := hf.2.2 g hg.2.1 v hv h
    have h2 := hg.2.2 f hf.2.1 v hv h
    omega
  · rw [hf.1 v hv h, hg.1 v hv h]
section GC
variable {n : Nat} {adj : Nat → List Nat} {tgt : Nat → Nat} {ow : Nat → Bool} {w : Nat → Int} {M : Int}
/-- there is a bounded one, and with it every won vertex of the other player leads to won ones alone -/
theorem gm_pre_ex (hn : n ≤ 7) (h0 : 0 ≤ M) (hT : ∀ v, v < n → ∀ e ∈ adj v, tgt e < n) (hM : ∀ v, v < n → ∀ e ∈ adj v, -M ≤ w e) :
    ∃ f, gm_pre n adj tgt ow w f ∧ (∀ v, v < n → gm_win adj tgt ow w 8 [] v 0 → f v ≤ ((n : Int) - 1) * M) ∧ ∀ v, v < n → gm_win adj tgt ow w 8 [] v 0 → ow v = false → ∀ e ∈ adj v, gm_win adj tgt ow w 8 [] (tgt e) 0 := by
  obtain ⟨f, hf⟩ := gm_main (ow := ow) hn h0 hT hM
  refine ⟨f, fun v hv hw => ⟨(hf v hv hw).1.1, (hf v hv hw).2.1, fun ho e he _ => ((hf v hv hw).2.2 ho e he).2⟩, fun v hv hw => (hf v hv hw).1.2, fun v hv hw ho e he => ((hf v hv hw).2.2 ho e he).1⟩
theorem gm_isCr_bd (hn : n ≤ 7) (h0 : 0 ≤ M) (hT : ∀ v, v < n → ∀ e ∈ adj v, tgt e < n) (hM : ∀ v, v < n → ∀ e ∈ adj v, -M ≤ w e) {f : Nat → Int} (hf : gm_isCr n adj tgt ow w f) {v : Nat} (hv : v < n) : -1 ≤ f v ∧ f v ≤ ((n : Int) - 1) * M := by
  obtain ⟨g, h1, h2, -⟩ := gm_pre_ex (ow := ow) hn h0 hT hM
  have h3 : 0 ≤ ((n : Int) - 1) * M := Int.mul_nonneg (by omega) h0
  by_cases h : gm_win adj tgt ow w 8 [] v 0
  · have := hf.2.2 g h1 v hv h
    have := h2 v hv h
    have := (hf.2.1 v hv h).1
    omega
  · rw [hf.1 v hv h]
    omega
/-- the smaller of two that are enough is enough -/
theorem gm_pre_min {f g : Nat → Int} (hf : gm_pre n adj tgt ow w f) (hg : gm_pre n adj tgt ow w g) : gm_pre n adj tgt ow w (fun v => min (f v) (g v)) := by
  intro v hv hw
  obtain ⟨a1, a2, a3⟩ := hf v hv hw
  obtain ⟨b1, b2, b3⟩ := hg v hv hw
  refine ⟨by simp only; omega, fun ho => ?_, fun ho e he h => ?_⟩
  · rcases Int.le_total (f v) (g v) with h | h
    · obtain ⟨e, he, h1, h2⟩ := a2 ho
      exact ⟨e, he, h1, by simp only; omega⟩
    · obtain ⟨e, he, h1, h2⟩ := b2 ho
      exact ⟨e, he, h1, by simp only; omega⟩
  · have := a3 ho e he h
    have := b3 ho e he h
    simp only
    omega
/-- numbers that grow from 0, never beyond what is enough, until they are enough -/
theorem gm_cr_up {f : Nat → Int} (h1 : ∀ v, v < n → ¬ gm_win adj tgt ow w 8 [] v 0 → f v = -1) (h2 : gm_pre n adj tgt ow w f) (h3 : ∀ f', gm_pre n adj tgt ow w f' → ∀ v, v < n → gm_win adj tgt ow w 8 [] v 0 → f v ≤ f' v) : gm_isCr n adj tgt ow w f := ⟨h1, h2, h3⟩
/-- what is needed in front of an edge, 1000000 for endless -/
def gm_ce (tgt : Nat → Nat) (w : Nat → Int) (g : Nat → Int) (e : Nat) : Int := if g (tgt e) = 1000000 then 1000000 else max 0 (g (tgt e) - w e)
def gm_nd (adj : Nat → List Nat) (tgt : Nat → Nat) (ow : Nat → Bool) (w : Nat → Int) (g : Nat → Int) (v : Nat) : Int := if ow v = true then gm_mn ((adj v).map (gm_ce tgt w g)) else gm_mx ((adj v).map (gm_ce tgt w g))
def gm_tt (cap : Int) (adj : Nat → List Nat) (tgt : Nat → Nat) (ow : Nat → Bool) (w : Nat → Int) (g : Nat → Int) (v : Nat) : Int := if cap < gm_nd adj tgt ow w g v then 1000000 else gm_nd adj tgt ow w g v
/-- what the numbers of the rounds are -/
def gm_rng (n : Nat) (cap : Int) (g : Nat → Int) : Prop := ∀ v, v < n → 0 ≤ g v ∧ (g v ≤ cap ∨ g v = 1000000)
theorem gm_ce_bd {cap : Int} {g : Nat → Int} {e : Nat} (hc : cap ≤ 100000) (hg : 0 ≤ g (tgt e) ∧ (g (tgt e) ≤ cap ∨ g (tgt e) = 1000000)) (hw : -100000 ≤ w e) : 0 ≤ gm_ce tgt w g e ∧ gm_ce tgt w g e ≤ 1000000 := by
  unfold gm_ce
  split <;> omega
theorem gm_nd_in (hA : ∀ v, v < n → adj v ≠ []) (hT : ∀ v, v < n → ∀ e ∈ adj v, tgt e < n) {cap : Int} (hc : cap ≤ 100000) (hw : ∀ v, v < n → ∀ e ∈ adj v, -100000 ≤ w e) {g : Nat → Int} (hg : gm_rng n cap g) {v : Nat} (hv : v < n) : ∃ e ∈ adj v, gm_nd adj tgt ow w g v = gm_ce tgt w g e := by
  obtain ⟨e0, he0⟩ : ∃ e, e ∈ adj v := List.exists_mem_of_ne_nil _ (hA v hv)
  have hb := gm_ce_bd hc (hg _ (hT v hv e0 he0)) (hw v hv e0 he0)
  unfold gm_nd
  split
  · have hin := gm_mn_in (l := (adj v).map (gm_ce tgt w g)) ⟨_, List.mem_map.mpr ⟨e0, he0, rfl⟩, by omega⟩
    obtain ⟨e, he, h⟩ := List.mem_map.mp hin
    exact ⟨e, he, h.symm⟩
  · have hin := gm_mx_in (l := (adj v).map (gm_ce tgt w g)) ⟨_, List.mem_map.mpr ⟨e0, he0, rfl⟩, by omega⟩
    obtain ⟨e, he, h⟩ := List.mem_map.mp hin
    exact ⟨e, he, h.symm⟩
theorem gm_tt_rng (hA : ∀ v, v < n → adj v ≠ []) (hT : ∀ v, v < n → ∀ e ∈ adj v, tgt e < n) {cap : Int} (hc : cap ≤ 100000) (hw : ∀ v, v < n → ∀ e ∈ adj v, -100000 ≤ w e) {g : Nat → Int} (hg : gm_rng n cap g) : gm_rng n cap (gm_tt cap adj tgt ow w g) := by
  intro v hv
  obtain ⟨e, he, h⟩ := gm_nd_in (ow := ow) hA hT hc hw hg hv
  have hb := gm_ce_bd hc (hg _ (hT v hv e he)) (hw v hv e he)
  unfold gm_tt
  rw [h]
  split <;> omega
theorem gm_nd_mono (hA : ∀ v, v < n → adj v ≠ []) (hT : ∀ v, v < n → ∀ e ∈ adj v, tgt e < n) {cap : Int} (hc : cap ≤ 100000) (hw : ∀ v, v < n → ∀ e ∈ adj v, -100000 ≤ w e) {g g' : Nat → Int} (hg : gm_rng n cap g) (hg' : gm_rng n cap g') (hle : ∀ v, v < n → g v ≤ g' v) {v : Nat} (hv : v < n) : gm_nd adj tgt ow w g v ≤ gm_nd adj tgt ow w g' v := by
  have hce : ∀ e ∈ adj v, gm_ce tgt w g e ≤ gm_ce tgt w g' e := by
    intro e he
    have h1 := hle _ (hT v hv e he)
    have h2 := hg _ (hT v hv e he)
    have h3 := hg' _ (hT v hv e he)
    have h4 := hw v hv e he
    unfold gm_ce
    split <;> split <;> omega
  cases ho : ow v with
  | true =>
    obtain ⟨e, he, h⟩ := gm_nd_in (ow := ow) hA hT hc hw hg' hv
    rw [h]
    refine Int.le_trans ?_ (hce e he)
    unfold gm_nd
    rw [if_pos ho]
    exact gm_mn_mem (List.mem_map.mpr ⟨e, he, rfl⟩)
  | false =>
    obtain ⟨e, he, h⟩ := gm_nd_in (ow := ow) hA hT hc hw hg hv
    rw [h]
    refine Int.le_trans (hce e he) ?_
    unfold gm_nd
    rw [if_neg (by simp [ho])]
    exact gm_mx_mem (List.mem_map.mpr ⟨e, he, rfl⟩)
theorem gm_tt_mono (hA : ∀ v, v < n → adj v ≠ []) (hT : ∀ v, v < n → ∀ e ∈ adj v, tgt e < n) {cap : Int} (hc : cap ≤ 100000) (hw : ∀ v, v < n → ∀ e ∈ adj v, -100000 ≤ w e) {g g' : Nat → Int} (hg : gm_rng n cap g) (hg' : gm_rng n cap g') (hle : ∀ v, v < n → g v ≤ g' v) {v : Nat} (hv : v < n) : gm_tt cap adj tgt ow w g v ≤ gm_tt cap adj tgt ow w g' v := by
  have h1 := gm_nd_mono (ow := ow) hA hT hc hw hg hg' hle hv
  obtain ⟨e, he, h⟩ := gm_nd_in (ow := ow) hA hT hc hw hg hv
  have hb := gm_ce_bd hc (hg _ (hT v hv e he)) (hw v hv e he)
  rw [← h] at hb
  unfold gm_tt
  split <;> split <;> omega
/-- a round keeps below what is enough -/
theorem gm_tt_below (hA : ∀ v, v < n → adj v ≠ []) {cap : Int} (hT : ∀ v, v < n → ∀ e ∈ adj v, tgt e < n) (hwt : ∀ v, v < n → gm_win adj tgt ow w 8 [] v 0 → ow v = false → ∀ e ∈ adj v, gm_win adj tgt ow w 8 [] (tgt e) 0) (hc : cap ≤ 100000) {g f' : Nat → Int} (hf : gm_pre n adj tgt ow w f') (hfc : ∀ v, v < n → gm_win adj tgt ow w 8 [] v 0 → f' v ≤ cap) (hg : ∀ v, v < n → gm_win adj tgt ow w 8 [] v 0 → g v ≤ f' v) {v : Nat} (hv : v < n) (hw : gm_win adj tgt ow w 8 [] v 0) : gm_tt cap adj tgt ow w g v ≤ f' v := by
  have hce : ∀ e ∈ adj v, gm_win adj tgt ow w 8 [] (tgt e) 0 → f' (tgt e) ≤ f' v + w e → gm_ce tgt w g e ≤ f' v := by
    intro e he h1 h2
    have h3 := hg _ (hT v hv e he) h1
    have h4 := hfc _ (hT v hv e he) h1
    have h5 := (hf v hv hw).1
    unfold gm_ce
    split <;> omega
  have hnd : gm_nd adj tgt ow w g v ≤ f' v := by
    unfold gm_nd
    split
    · rename_i ho
      obtain ⟨e, he, h1, h2⟩ := (hf v hv hw).2.1 ho
      exact Int.le_trans (gm_mn_mem (List.mem_map.mpr ⟨e, he, rfl⟩)) (hce e he h1 h2)
    · rename_i ho
      have ho : ow v = false := by cases h : ow v <;> simp_all
      rcases gm_mx_or ((adj v).map (gm_ce tgt w g)) with h | h
      · rw [h]
        have := (hf v hv hw).1
        omega
      · obtain ⟨e, he, h3⟩ := List.mem_map.mp h
        rw [← h3]
        have hwe := hwt v hv hw ho e he
        exact hce e he hwe ((hf v hv hw).2.2 ho e he hwe)
  have := hfc v hv hw
  unfold gm_tt
  split <;> omega
/-- what the rounds end in is the credit -/
theorem gm_cr_model (hn : n ≤ 7) (h0 : 0 ≤ M) (hA : ∀ v, v < n → adj v ≠ []) (hT : ∀ v, v < n → ∀ e ∈ adj v, tgt e < n) (hM : ∀ v, v < n → ∀ e ∈ adj v, -M ≤ w e) {cap : Int} (hcap : cap = (n : Int) * M) (hc : cap ≤ 100000) (hM2 : M ≤ 100000) {g : Nat → Int} (hg : gm_rng n cap g)
    (hfix : ∀ v, v < n → gm_tt cap adj tgt ow w g v = g v) (hleast : ∀ f', gm_pre n adj tgt ow w f' → (∀ v, v < n → gm_win adj tgt ow w 8 [] v 0 → f' v ≤ cap) → ∀ v, v < n → gm_win adj tgt ow w 8 [] v 0 → g v ≤ f' v) :
    gm_isCr n adj tgt ow w (fun v => if g v = 1000000 then -1 else g v) := by
  have hw' : ∀ v, v < n → ∀ e ∈ adj v, -100000 ≤ w e := fun v hv e he => by have := hM v hv e he; omega
  obtain ⟨fm, hm1, hm2, hm3⟩ := gm_pre_ex (ow := ow) hn h0 hT hM
  have hcm : ∀ v, v < n → gm_win adj tgt ow w 8 [] v 0 → fm v ≤ cap := by
    intro v hv hw
    have h1 := hm2 v hv hw
    have h2 : ((n : Int) - 1) * M ≤ (n : Int) * M := Int.mul_le_mul_of_nonneg_right (by omega) h0
    omega
  have hwg : ∀ v, v < n → gm_win adj tgt ow w 8 [] v 0 → g v ≤ cap := fun v hv hw => Int.le_trans (hleast fm hm1 hcm v hv hw) (hcm v hv hw)
  -- the finite ones are enough
  have hown : ∀ v, v < n → g v ≤ cap → ow v = true → ∃ e ∈ adj v, g (tgt e) ≤ cap ∧ g (tgt e) ≤ g v + w e := by
    intro v hv hgv ho
    obtain ⟨e, he, h⟩ := gm_nd_in (ow := ow) hA hT hc hw' hg hv
    have h1 := hfix v hv
    have h2 := hg _ (hT v hv e he)
    refine ⟨e, he, ?_⟩
    unfold gm_tt at h1
    rw [h] at h1
    unfold gm_ce at h1
    split at h1
    · omega
    · split at h1 <;> omega
  have hopp : ∀ v, v < n → g v ≤ cap → ow v = false → ∀ e ∈ adj v, g (tgt e) ≤ cap ∧ g (tgt e) ≤ g v + w e := by
    intro v hv hgv ho e he
    have h1 := hfix v hv
    have h2 := hg _ (hT v hv e he)
    have h3 : gm_ce tgt w g e ≤ gm_nd adj tgt ow w g v := by
      unfold gm_nd
      rw [if_neg (by simp [ho])]
      exact gm_mx_mem (List.mem_map.mpr ⟨e, he, rfl⟩)
    unfold gm_tt at h1
    unfold gm_ce at h3
    split at h1
    · omega
    · split at h3 <;> omega
  have hfin : ∀ v, v < n → g v ≤ cap → gm_win adj tgt ow w 8 [] v 0 := by
    intro v hv hgv
    exact gm_fin_win hn (S := fun v => v < n ∧ g v ≤ cap) (f := g) (fun v h => h.1)
      (fun v h ho => by obtain ⟨e, he, h1, h2⟩ := hown v h.1 h.2 ho; exact ⟨e, he, ⟨hT v h.1 e he, h1⟩, h2⟩)
      (fun v h ho e he => by obtain ⟨h1, h2⟩ := hopp v h.1 h.2 ho e he; exact ⟨⟨hT v h.1 e he, h1⟩, h2⟩)
      8 [] v 0 (by simp) ⟨List.nodup_nil, fun q h => by cases h⟩ ⟨hv, hgv⟩ (fun q h => by cases h)
  have hif : ∀ v, v < n → gm_win adj tgt ow w 8 [] v 0 → (if g v = 1000000 then (-1 : Int) else g v) = g v := by
    intro v hv hw
    have := hwg v hv hw
    rw [if_neg (by omega)]
  refine ⟨fun v hv hw => ?_, fun v hv hw => ⟨?_, fun ho => ?_, fun ho e he hwe => ?_⟩, fun f' hf' v hv hw => ?_⟩
  · rcases (hg v hv).2 with h | h
    · exact absurd (hfin v hv h) hw
    · simp only
      rw [if_pos h]
  · simp only
    rw [hif v hv hw]
    exact (hg v hv).1
  · obtain ⟨e, he, h1, h2⟩ := hown v hv (hwg v hv hw) ho
    have hwe := hfin _ (hT v hv e he) h1
    refine ⟨e, he, hwe, ?_⟩
    simp only
    rw [hif _ (hT v hv e he) hwe, hif v hv hw]
    exact h2
  · obtain ⟨h1, h2⟩ := hopp v hv (hwg v hv hw) ho e he
    simp only
    rw [hif _ (hT v hv e he) hwe, hif v hv hw]
    exact h2
  · simp only
    rw [hif v hv hw]
    have h1 := hleast _ (gm_pre_min hf' hm1) (fun u hu hwu => by have := hcm u hu hwu; omega) v hv hw
    omega
/-- a vertex with a credit has an edge that its credit allows -/
theorem gm_cr_edge {f : Nat → Int} (hf : gm_isCr n adj tgt ow w f) {v : Nat} (hv : v < n) (hw : gm_win adj tgt ow w 8 [] v 0) (ho : ow v = true) : ∃ e ∈ adj v, gm_win adj tgt ow w 8 [] (tgt e) 0 ∧ f (tgt e) ≤ f v + w e := (hf.2.1 v hv hw).2.1 ho
theorem gm_cr_win {f : Nat → Int} (hf : gm_isCr n adj tgt ow w f) {v : Nat} (hv : v < n) : gm_win adj tgt ow w 8 [] v 0 ↔ 0 ≤ f v := by
  constructor
  · intro h
    exact (hf.2.1 v hv h).1
  · intro h
    by_cases hw : gm_win adj tgt ow w 8 [] v 0
    · exact hw
    · have := hf.1 v hv hw
      omega
end GC
end
section
/-! ===== environment, contract forms ===== -/
/-- the words on private members of nest mates -/
def nw_L : List Cond := [.methodLinkNest RX4 100 yX3_findAll "CreditGame", .methodLinkNest RX4 103 yX0_solve "CreditGame", .methodLinkNest RX4 107 yX0_needOf "CreditGame", .methodLinkNest RX4 114 yX3_find "CreditGame", .methodLinkNest RX4 117 yX3_order "CreditGame", .methodLinkNest RX4 120 yX3_bottomOf "CreditGame", .methodLinkNest RX4 123 yX3_topOf "CreditGame", .methodLinkNest RX4 144 yX1_hasVertex "CreditGame", .methodLinkNest RX4 150 yX1_isComplete "CreditGame", .methodLinkNest RX4 156 yX1_ownerOf "CreditGame", .methodLinkNest RX4 159 yX1_waysFrom "CreditGame", .methodLinkNest RX4 162 yX1_wayFrom "CreditGame", .methodLinkNest RX4 165 yX0_allows "CreditGame", .methodLinkNest RX4 168 yX2_clear "CreditGame", .methodLinkNest RX4 171 yX2_has "CreditGame", .methodLinkNest RX4 174 yX2_enter "CreditGame", .methodLinkNest RX4 177 yX1_weightOf "CreditGame", .methodLinkNest RX4 18 yX3_init "CreditGame", .methodLinkNest RX4 180 yX1_targetOf "CreditGame", .methodLinkNest RX4 183 yX2_stepsTo "CreditGame", .methodLinkNest RX4 186 yX2_sumTo "CreditGame", .methodLinkNest RX4 27 yX0_init "CreditGame", .methodLinkNest RX4 36 yX2_init "CreditGame", .methodLinkNest RX4 60 yX3_forget "CreditGame", .methodLinkNest RX4 63 yX1_addVertex "CreditGame", .methodLinkNest RX4 80 yX1_addEdge "CreditGame", .methodLinkNest RX4 84 yX1_isFrom "CreditGame", .methodLinkNest RX4 9 yX1_init "CreditGame", .methodLinkNest RX4 90 yX1_setFixed "CreditGame", .methodLinkNest RX4 94 yX1_fixedOf "CreditGame", .methodLinkNest RX0 26 yX1_weightOf "CreditGame", .methodLinkNest RX0 32 yX3_order "CreditGame", .methodLinkNest RX0 42 yX1_ownerOf "CreditGame", .methodLinkNest RX0 49 yX1_waysFrom "CreditGame", .methodLinkNest RX0 52 yX1_wayFrom "CreditGame", .methodLinkNest RX0 59 yX1_targetOf "CreditGame", .methodLinkNest RX3 11 yX2_init "CreditGame", .methodLinkNest RX3 34 yX1_hasVertex "CreditGame", .methodLinkNest RX3 40 yX2_clear "CreditGame", .methodLinkNest RX3 62 yX2_has "CreditGame", .methodLinkNest RX3 65 yX2_stepsTo "CreditGame", .methodLinkNest RX3 68 yX2_sumTo "CreditGame", .methodLinkNest RX3 74 yX2_enter "CreditGame", .methodLinkNest RX3 78 yX1_ownerOf "CreditGame", .methodLinkNest RX3 87 yX2_leave "CreditGame", .methodLinkNest RX3 90 yX1_waysFrom "CreditGame", .methodLinkNest RX3 93 yX1_wayFrom "CreditGame", .methodLinkNest RX3 96 yX1_targetOf "CreditGame", .methodLinkNest RX3 99 yX1_weightOf "CreditGame", .fieldLinkNest RX4 49 "CreditGame$Graph" "vertexCount" "I" "CreditGame", .fieldLinkNest RX4 75 "CreditGame$Graph" "edgeCount" "I" "CreditGame"]
def nw_is : Cond → Bool
  | .methodLinkNest _ _ _ _ => true
  | .fieldLinkNest _ _ _ _ _ _ => true
  | _ => false
theorem nw_all : ∀ w ∈ nw_L, nw_is w = true := by
  intro w hw
  exact List.all_eq_true.mp (show nw_L.all nw_is = true from rfl) w hw
theorem nw_warm1 {w : Cond} {s U : State} (hi : nw_is w = true) (hW : s.WarmedH U.vm) (h : va_Nw w s) : va_Nw w U := by
  cases w <;> first | exact va_Nw.warmM hW h | exact va_Nw.warmF hW h | (exact Bool.noConfusion hi)
theorem nw_same1 {w : Cond} {s U : State} (hi : nw_is w = true) (hv : s.vm = U.vm) (h : va_Nw w s) : va_Nw w U := by
  cases w <;> first | exact va_Nw.same rfl hv h | (exact Bool.noConfusion hi)
/-- class numbers and places of fields; the array classes of int, long, boolean, int[] -/
abbrev en_T : Type := va_G × ClassId × ClassId × ClassId × ClassId
abbrev en_ty (en : en_T) : List (ClassId × FieldType) := [(en.2.1, .int), (en.2.2.1, .long), (en.2.2.2.1, .boolean), (en.2.2.2.2, .array .int)]
def en_ok (en : en_T) (U : State) : Prop := va_K en.1 vwCl (en_ty en) U ∧ ∀ w ∈ nw_L, va_Nw w U
theorem en_ok.warm {en : en_T} {s U : State} (hW : s.WarmedH U.vm) (h : en_ok en s) : en_ok en U := ⟨va_K.moved hW.alike h.1, fun w hw => nw_warm1 (nw_all w hw) hW (h.2 w hw)⟩
theorem en_ok.calling {en : en_T} {U : State} {g : JFrame} {mk : MethodId} {a : Array Value} (h : en_ok en U) : en_ok en (U.calling g mk a) := ⟨va_K.moved (u := U) (U := U.calling g mk a) (Vm.Alike.refl U.vm) h.1, fun w hw => nw_same1 (s := U) (U := U.calling g mk a) (nw_all w hw) rfl (h.2 w hw)⟩
/-- a method's start -/
def ct_Pc (en : en_T) (av : List Value) (B : Heap → Prop) : Array Value → State → Prop := fun v U => v = av.toArray ∧ en_ok en U ∧ B U.heap
theorem ct_blind {en : en_T} {av : List Value} {B : Heap → Prop} : FrameBlind (ct_Pc en av B) := fun _ _ _ _ q => ⟨q.1, q.2.1.calling, q.2.2⟩
theorem ct_preV {en : en_T} {B : Heap → Prop} {s : State} {H : Heap} {C : String} {b : Addr} {As : List Value} (hE : en_ok en s) (hr : ∃ cell : Cell, H[b]? = some cell ∧ cell.vm.isStatics = false ∧ s.vm.findClass C = some cell.cls) (hB : B H) : PreV s H C b (ct_Pc en (.ref b :: As) B) As := ⟨ct_blind, hr, fun _ hU hW => ⟨rfl, hE.warm hW, by rw [hU]; exact hB⟩⟩
theorem ct_preS {en : en_T} {B : Heap → Prop} {s : State} {H : Heap} {As : List Value} (hE : en_ok en s) (hB : B H) : PreS s H (ct_Pc en As B) As := ⟨ct_blind, fun _ hU hW => ⟨rfl, hE.warm hW, by rw [hU]; exact hB⟩⟩
/-- a method that only reads: its answer -/
def ro_Qi (post : Int32 → Prop) : Array Value → State → Outcome → State → Prop := fun _ st oc t => ∃ r : Int32, oc = .returned (some (.int r)) ∧ post r ∧ t.heap = st.heap
abbrev rm_ (d mc ms : Nat) : Room := { frames := d, cells := mc, slots := ms, locals := 40 * d }
section RO
variable {p : Program} {l : Launch} {e : Env} {R : Room} {s : State} {m : MethodId} {args : Array Value} {below : List Frame} {meth : Method} {c : Code} {H : Heap} {locs : List Loc} {cells slots : Nat} {Q : State → Prop}
variable {pc : Nat} {ls : Array Slot} {rest st0 : List Value} {a : Array Value}
theorem ro_calli {post : Int32 → Prop} (hr : va_Run p l e R s m args below meth c H locs cells slots 0 0 (F0 m pc ls st0) rest (ro_Qi post a) (fun _ => False))
    (kk : ∀ r : Int32, post r → W p l e R s m args below meth c H locs cells slots Q (F0 m (pc + 3) ls (.int r :: rest))) : W p l e R s m args below meth c H locs cells slots Q (F0 m pc ls st0) := by
  intro T hT X
  obtain ⟨v, st₀, t, T', L, h0, X', hL, e1, -, ⟨r, hv, hp, hh⟩, st⟩ := hr T hT X
  cases hv
  obtain ⟨t2, a1, b1⟩ := kk r hp T' (by rw [e1, hh, h0]) (Stand.forget X' (fun q h => (hL q h).elim))
  exact ⟨t2, st t2 a1, b1⟩
end RO
/-- an array of arrays is read -/
theorem my_aldA {p : Program} {l : Launch} {e : Env} {R : Room} {s : State} {m : MethodId} {args : Array Value} {below : List Frame} {meth : Method} {c : Code} {H : Heap} {locs : List Loc} {cells slots : Nat} {Q : State → Prop} {cc : ByteArray} {pc : Nat} {ls : Array Slot} {rest : List Value} {D : va_G} {cl : List vw_C} {a : Nat} {tys : List (ClassId × FieldType)} {ws : va_W} (hexec : p.tables.exec = Jvm.exec) (hb : c.code = cc) (hK : va_K D cl tys s) (hP : va_P D cl ws H) (q0 t0 : Nat) {cA : ClassId} {t : FieldType} {n : Nat} {f : Nat → Option Nat} (ha : ws[q0]? = some (a, .inl (cA, n, .inr (.inr (.inr (.inr f)))))) (ht : tys[t0]? = some (cA, .array t)) {i : Int32} (hin : vp_in i n) (hdg : decode cc pc = .ok (.aaload, 1))
    (kk : W p l e R s m args below meth c H locs cells slots Q (F0 m (pc + 1) ls (va_rf (f i.toNatClampNeg) :: rest))) : W p l e R s m args below meth c H locs cells slots Q (F0 m pc ls (.int i :: .ref a :: rest)) := by
  have hlt : i.toNatClampNeg < n := Nat.not_le.mp fun q => hin (Or.inr q)
  exact W.aald (v := va_rf (f i.toNatClampNeg)) (ty := .array t) hexec hb (hP q0 _ ha) ((hK.2 t0 _ ht).1 n (fun j => va_rf (f j))) rfl (fun q => by cases q) (by show ¬ (i < 0 ∨ (arrV _ _ _).slots.size ≤ _); rw [arrV_size]; exact hin) (by show (arrV _ _ _).slots[_]? = _; rw [arrV_read _ _ hlt]) rfl rfl hdg kk
/-! ===== the class's world: 29 cells at the addresses ad 0 .. ad 28; c k j: what cell k holds at j (c 1 0, c 1 1: the counts) ===== -/
abbrev xw_a (en : en_T) (ad : Nat → Nat) (c : Nat → Nat → Int32) (k L : Nat) : Nat × va_E := (ad k, .inl (en.2.1, L, .inl (c k)))
def xw (en : en_T) (ad : Nat → Nat) (c : Nat → Nat → Int32) : va_W :=
  [(ad 0, .inr (4, [.ref (ad 1), .ref (ad 2), .ref (ad 3), .ref (ad 4), .ref (ad 20)])),
   (ad 1, .inr (1, [.ref (ad 6), .ref (ad 7), .ref (ad 8), .ref (ad 21), .ref (ad 9), .ref (ad 10), .ref (ad 11), .int (c 1 0), .int (c 1 1)])),
   (ad 2, .inr (3, [.ref (ad 1), .ref (ad 5), .ref (ad 12), .ref (ad 13)])),
   (ad 3, .inr (0, [.ref (ad 1), .ref (ad 2), .ref (ad 14), .ref (ad 15)])),
   (ad 4, .inr (2, [.ref (ad 16), .ref (ad 17)])),
   (ad 5, .inr (2, [.ref (ad 18), .ref (ad 19)])),
   xw_a en ad c 6 7, xw_a en ad c 7 7, xw_a en ad c 8 7, xw_a en ad c 9 24, xw_a en ad c 10 24, xw_a en ad c 11 24,
   (ad 12, .inl (en.2.2.2.1, 7, .inl (c 12))),
   xw_a en ad c 13 7, xw_a en ad c 14 7, xw_a en ad c 15 24, xw_a en ad c 16 7, xw_a en ad c 17 7, xw_a en ad c 18 7, xw_a en ad c 19 7, xw_a en ad c 20 7,
   (ad 21, .inl (en.2.2.2.2, 7, .inr (.inr (.inr (.inr (fun i => if i < 7 then some (ad (22 + i)) else none)))))),
   xw_a en ad c 22 24, xw_a en ad c 23 24, xw_a en ad c 24 24, xw_a en ad c 25 24, xw_a en ad c 26 24, xw_a en ad c 27 24, xw_a en ad c 28 24]
/-- which cells are int arrays, and how long -/
def xw_l : Nat → Nat
  | 6 => 7 | 7 => 7 | 8 => 7 | 9 => 24 | 10 => 24 | 11 => 24 | 13 => 7 | 14 => 7 | 15 => 24 | 16 => 7 | 17 => 7 | 18 => 7 | 19 => 7 | 20 => 7
  | 22 => 24 | 23 => 24 | 24 => 24 | 25 => 24 | 26 => 24 | 27 => 24 | 28 => 24
  | _ => 0
theorem xw_at {en : en_T} {ad : Nat → Nat} {c : Nat → Nat → Int32} : ∀ k, 0 < xw_l k → (xw en ad c)[k]? = some (ad k, .inl (en.2.1, xw_l k, .inl (c k)))
  | 6, _ => rfl | 7, _ => rfl | 8, _ => rfl | 9, _ => rfl | 10, _ => rfl | 11, _ => rfl | 13, _ => rfl | 14, _ => rfl | 15, _ => rfl | 16, _ => rfl | 17, _ => rfl | 18, _ => rfl | 19, _ => rfl | 20, _ => rfl
  | 22, _ => rfl | 23, _ => rfl | 24, _ => rfl | 25, _ => rfl | 26, _ => rfl | 27, _ => rfl | 28, _ => rfl
  | 0, h | 1, h | 2, h | 3, h | 4, h | 5, h | 12, h | 21, h => absurd h (by decide)
  | _ + 29, h => absurd h (by simp [xw_l])
theorem xw_set {en : en_T} {ad : Nat → Nat} {c : Nat → Nat → Int32} {g : Nat → Int32} : ∀ k, 0 < xw_l k → (xw en ad c).set k (ad k, .inl (en.2.1, xw_l k, .inl g)) = xw en ad (va_up c k g)
  | 6, _ => rfl | 7, _ => rfl | 8, _ => rfl | 9, _ => rfl | 10, _ => rfl | 11, _ => rfl | 13, _ => rfl | 14, _ => rfl | 15, _ => rfl | 16, _ => rfl | 17, _ => rfl | 18, _ => rfl | 19, _ => rfl | 20, _ => rfl
  | 22, _ => rfl | 23, _ => rfl | 24, _ => rfl | 25, _ => rfl | 26, _ => rfl | 27, _ => rfl | 28, _ => rfl
  | 0, h | 1, h | 2, h | 3, h | 4, h | 5, h | 12, h | 21, h => absurd h (by decide)
  | _ + 29, h => absurd h (by simp [xw_l])
theorem xw_fst {en : en_T} {ad : Nat → Nat} {c : Nat → Nat → Int32} {k : Nat} {q : Nat × va_E} (h : (xw en ad c)[k]? = some q) : k < 29 ∧ q.1 = ad k := by
  have hm : ((xw en ad c).map Prod.fst)[k]? = some q.1 := by rw [List.getElem?_map, h]; rfl
  have he : (xw en ad c).map Prod.fst = (List.range 29).map ad := rfl
  rw [he, List.getElem?_map] at hm
  by_cases hk : k < 29
  · rw [List.getElem?_range hk] at hm
    exact ⟨hk, (Option.some.inj hm).symm⟩
  · rw [List.getElem?_eq_none (by rw [List.length_range]; omega)] at hm
    cases hm
theorem xw_ex {en : en_T} {ad : Nat → Nat} {c : Nat → Nat → Int32} {k : Nat} (hk : k < 29) : ∃ e, (xw en ad c)[k]? = some (ad k, e) := by
  have hl : (xw en ad c).length = 29 := rfl
  have h : (xw en ad c)[k]? = some ((xw en ad c)[k]'(by omega)) := List.getElem?_eq_getElem (by omega)
  refine ⟨((xw en ad c)[k]'(by omega)).2, ?_⟩
  rw [h]
  have := (xw_fst h).2
  rw [← this]
/-- the cells that the class's methods may change -/
def xw_A (ad : Nat → Nat) (sz : Nat) : Nat → Prop := fun q => (∃ k, k < 29 ∧ q = ad k) ∨ sz ≤ q
def xw_I (ad : Nat → Nat) : Prop := ∀ i j, i < 29 → j < 29 → ad i = ad j → i = j
theorem xw_D {en : en_T} {ad : Nat → Nat} {c : Nat → Nat → Int32} {sz : Nat} (hI : xw_I ad) : va_D (xw_A ad sz) (xw en ad c) := by
  refine ⟨fun i j p q hp hq hpq => ?_, fun k q hq => ?_⟩
  · obtain ⟨a1, a2⟩ := xw_fst hp
    obtain ⟨b1, b2⟩ := xw_fst hq
    exact hI i j a1 b1 (by rw [← a2, ← b2, hpq])
  · obtain ⟨a1, a2⟩ := xw_fst hq
    exact Or.inl ⟨k, a1, a2⟩
theorem xw_up {ad : Nat → Nat} {sz sz' : Nat} (h : sz ≤ sz') : ∀ q, xw_A ad sz' q → xw_A ad sz q := fun _ hq => hq.elim Or.inl (fun h2 => Or.inr (Nat.le_trans h h2))
section XR
variable {p : Program} {l : Launch} {e : Env} {R : Room} {s : State} {m : MethodId} {args : Array Value} {below : List Frame} {meth : Method} {co : Code} {H : Heap} {locs : List Loc} {cells slots : Nat} {Q : State → Prop}
variable {cc : ByteArray} {pc : Nat} {ls : Array Slot} {rest st0 : List Value} {en : en_T} {ad : Nat → Nat} {c : Nat → Nat → Int32} {H0 : Heap} {sz : Nat}
theorem xr_ild (hexec : p.tables.exec = Jvm.exec) (hb : co.code = cc) (hE : en_ok en s) (hP : va_P en.1 vwCl (xw en ad c) H) (k : Nat) (hk : 0 < xw_l k) (j : Nat) {i : Int32} (hi : i = nI j) (hj : j < xw_l k) (hdg : decode cc pc = .ok (.iaload, 1))
    (kk : W p l e R s m args below meth co H locs cells slots Q (F0 m (pc + 1) ls (.int (c k j) :: rest))) : W p l e R s m args below meth co H locs cells slots Q (F0 m pc ls (.int i :: .ref (ad k) :: rest)) := by
  have h24 : xw_l k ≤ 24 := by unfold xw_l; split <;> omega
  subst hi
  have hc : (nI j).toNatClampNeg = j := nI_clamp (by omega)
  refine va_iald hexec hb hE.1 hP k 0 (xw_at k hk) rfl (vp_in_nI hj (by omega)) hdg ?_
  rw [hc]
  exact kk
theorem xr_ist (hexec : p.tables.exec = Jvm.exec) (hb : co.code = cc) (hE : en_ok en s) (hP : va_P en.1 vwCl (xw en ad c) H) (hI : xw_I ad) (hS : va_S (xw_A ad sz) H0 H locs) (k : Nat) (hk : 0 < xw_l k) (j : Nat) {i x : Int32} (hi : i = nI j) (hj : j < xw_l k) (hdg : decode cc pc = .ok (.iastore, 1))
    (kk : ∀ (H1 : Heap) (locs1 : List Loc), va_P en.1 vwCl (xw en ad (va_up c k (upd (c k) j x))) H1 → va_S (xw_A ad sz) H0 H1 locs1 → W p l e R s m args below meth co H1 locs1 cells slots Q (F0 m (pc + 1) ls rest)) : W p l e R s m args below meth co H locs cells slots Q (F0 m pc ls (.int x :: .int i :: .ref (ad k) :: rest)) := by
  have h24 : xw_l k ≤ 24 := by unfold xw_l; split <;> omega
  subst hi
  have hc : (nI j).toNatClampNeg = j := nI_clamp (by omega)
  refine va_iast hexec hb hE.1 hP (xw_D hI) hS k 0 (xw_at k hk) rfl (vp_in_nI hj (by omega)) hdg (fun H1 locs1 hP1 _ hS1 => ?_)
  rw [hc, xw_set k hk] at hP1
  exact kk H1 locs1 hP1 hS1
theorem xr_zld (hexec : p.tables.exec = Jvm.exec) (hb : co.code = cc) (hE : en_ok en s) (hP : va_P en.1 vwCl (xw en ad c) H) (j : Nat) {i : Int32} (hi : i = nI j) (hj : j < 7) (hdg : decode cc pc = .ok (.baload, 1))
    (kk : W p l e R s m args below meth co H locs cells slots Q (F0 m (pc + 1) ls (.int (c 12 j) :: rest))) : W p l e R s m args below meth co H locs cells slots Q (F0 m pc ls (.int i :: .ref (ad 12) :: rest)) := by
  subst hi
  have hc : (nI j).toNatClampNeg = j := nI_clamp (by omega)
  refine va_zald (f := c 12) (n := 7) (cA := en.2.2.2.1) hexec hb hE.1 hP 12 2 rfl rfl (vp_in_nI hj (by omega)) hdg ?_
  rw [hc]
  exact kk
theorem xr_zst (hexec : p.tables.exec = Jvm.exec) (hb : co.code = cc) (hE : en_ok en s) (hP : va_P en.1 vwCl (xw en ad c) H) (hI : xw_I ad) (hS : va_S (xw_A ad sz) H0 H locs) (j : Nat) {i x : Int32} (hi : i = nI j) (hj : j < 7) (hdg : decode cc pc = .ok (.bastore, 1))
    (kk : ∀ (H1 : Heap) (locs1 : List Loc), va_P en.1 vwCl (xw en ad (va_up c 12 (upd (c 12) j (vp_nar .boolean x)))) H1 → va_S (xw_A ad sz) H0 H1 locs1 → W p l e R s m args below meth co H1 locs1 cells slots Q (F0 m (pc + 1) ls rest)) : W p l e R s m args below meth co H locs cells slots Q (F0 m pc ls (.int x :: .int i :: .ref (ad 12) :: rest)) := by
  subst hi
  have hc : (nI j).toNatClampNeg = j := nI_clamp (by omega)
  refine va_zast (f := c 12) (n := 7) (cA := en.2.2.2.1) hexec hb hE.1 hP (xw_D hI) hS 12 2 rfl rfl (vp_in_nI hj (by omega)) hdg (fun H1 locs1 hP1 _ hS1 => ?_)
  rw [hc] at hP1
  exact kk H1 locs1 hP1 hS1
theorem xr_ald (hexec : p.tables.exec = Jvm.exec) (hb : co.code = cc) (hE : en_ok en s) (hP : va_P en.1 vwCl (xw en ad c) H) (j : Nat) {i : Int32} (hi : i = nI j) (hj : j < 7) (hdg : decode cc pc = .ok (.aaload, 1))
    (kk : W p l e R s m args below meth co H locs cells slots Q (F0 m (pc + 1) ls (.ref (ad (22 + j)) :: rest))) : W p l e R s m args below meth co H locs cells slots Q (F0 m pc ls (.int i :: .ref (ad 21) :: rest)) := by
  subst hi
  have hc : (nI j).toNatClampNeg = j := nI_clamp (by omega)
  refine my_aldA (t := .int) (n := 7) (cA := en.2.2.2.2) (f := fun i => if i < 7 then some (ad (22 + i)) else none) hexec hb hE.1 hP 21 3 rfl rfl (vp_in_nI hj (by omega)) hdg ?_
  simp only [hc, if_pos hj]
  exact kk
/-- calls of the class's methods that write: an int comes back -/
theorem xr_calli {post : Int32 → (Nat → Nat → Int32) → Prop} {a : Array Value} {mc ms : Nat} (hr : va_Run p l e R s m args below meth co H locs cells slots mc ms (F0 m pc ls st0) rest (va_Qi post (fun c' t => va_P en.1 vwCl (xw en ad c') t.heap) (xw_A ad H.size) a) (xw_A ad H.size)) (hS : va_S (xw_A ad s.heap.size) s.heap H locs)
    (kk : ∀ (r : Int32) (c' : Nat → Nat → Int32) (H1 : Heap) (locs1 : List Loc), post r c' → va_P en.1 vwCl (xw en ad c') H1 → va_S (xw_A ad s.heap.size) s.heap H1 locs1 → W p l e R s m args below meth co H1 locs1 (cells + mc) (slots + ms) Q (F0 m (pc + 3) ls (.int r :: rest))) : W p l e R s m args below meth co H locs cells slots Q (F0 m pc ls st0) := by
  refine va_calli hr hS (fun q _ h => xw_up hS.1 q h) (fun q h => xw_up hS.1 q h) (fun r u t H1 locs1 ht _ hw hB _ _ hS1 => ?_)
  rw [ht] at hB
  exact kk r u H1 locs1 hw hB hS1
theorem xr_callv {post : (Nat → Nat → Int32) → Prop} {a : Array Value} {mc ms : Nat} (hr : va_Run p l e R s m args below meth co H locs cells slots mc ms (F0 m pc ls st0) rest (va_Qv post (fun c' t => va_P en.1 vwCl (xw en ad c') t.heap) (xw_A ad H.size) a) (xw_A ad H.size)) (hS : va_S (xw_A ad s.heap.size) s.heap H locs)
    (kk : ∀ (c' : Nat → Nat → Int32) (H1 : Heap) (locs1 : List Loc), post c' → va_P en.1 vwCl (xw en ad c') H1 → va_S (xw_A ad s.heap.size) s.heap H1 locs1 → W p l e R s m args below meth co H1 locs1 (cells + mc) (slots + ms) Q (F0 m (pc + 3) ls rest)) : W p l e R s m args below meth co H locs cells slots Q (F0 m pc ls st0) := by
  refine va_callv hr hS (fun q _ h => xw_up hS.1 q h) (fun q h => xw_up hS.1 q h) (fun u t H1 locs1 ht _ hw hB _ _ hS1 => ?_)
  rw [ht] at hB
  exact kk u H1 locs1 hw hB hS1
end XR
end
section
/-! ===== the graph, read off the cells ===== -/
def gp_out (E : Nat) (src : Nat → Int32) (v : Nat) : List Nat := (List.range E).filter (fun e => src e == nI v)
def gp_adj (n E : Nat) (src fx : Nat → Int32) (v : Nat) : List Nat := if v < n then (if fx v = -1 then gp_out E src v else [(fx v).toNatClampNeg]) else []
def gp_tgt (E : Nat) (tg : Nat → Int32) (e : Nat) : Nat := if e < E then (tg e).toNatClampNeg else 0
def gp_w (E : Nat) (wt : Nat → Int32) (e : Nat) : Int := if e < E then (wt e).toInt else 0
def gp_ow (n : Nat) (own : Nat → Int32) (v : Nat) : Bool := decide (v < n) && (own v == 0)
/-- a graph: how many vertices and edges; owner, fixed edge; source, target, weight -/
abbrev gr_T : Type := Nat × Nat × (Nat → Int32) × (Nat → Int32) × (Nat → Int32) × (Nat → Int32) × (Nat → Int32)
def gr_n (G : gr_T) : Nat := G.1
def gr_E (G : gr_T) : Nat := G.2.1
def gr_own (G : gr_T) : Nat → Int32 := G.2.2.1
def gr_fx (G : gr_T) : Nat → Int32 := G.2.2.2.1
def gr_src (G : gr_T) : Nat → Int32 := G.2.2.2.2.1
def gr_tg (G : gr_T) : Nat → Int32 := G.2.2.2.2.2.1
def gr_wt (G : gr_T) : Nat → Int32 := G.2.2.2.2.2.2
def gr_out (G : gr_T) : Nat → List Nat := gp_out (gr_E G) (gr_src G)
def gr_adj (G : gr_T) : Nat → List Nat := gp_adj (gr_n G) (gr_E G) (gr_src G) (gr_fx G)
def gr_tgt (G : gr_T) : Nat → Nat := gp_tgt (gr_E G) (gr_tg G)
def gr_w (G : gr_T) : Nat → Int := gp_w (gr_E G) (gr_wt G)
def gr_ow (G : gr_T) : Nat → Bool := gp_ow (gr_n G) (gr_own G)
/-- what holds of every graph -/
def gf_ok (G : gr_T) : Prop :=
  gr_n G ≤ 7 ∧ gr_E G ≤ 24 ∧ (∀ v, v < gr_n G → gr_own G v = 0 ∨ gr_own G v = 1) ∧
  (∀ e, e < gr_E G → (∃ a, a < gr_n G ∧ gr_src G e = nI a) ∧ (∃ b, b < gr_n G ∧ gr_tg G e = nI b) ∧ -9 ≤ (gr_wt G e).toInt ∧ (gr_wt G e).toInt ≤ 9) ∧
  (∀ v, v < gr_n G → gr_fx G v = -1 ∨ ∃ e, e < gr_E G ∧ gr_fx G v = nI e ∧ gr_src G e = nI v)
/-- the class's cells hold the graph -/
def gi (G : gr_T) (c : Nat → Nat → Int32) : Prop :=
  gf_ok G ∧ c 1 0 = nI (gr_n G) ∧ c 1 1 = nI (gr_E G) ∧ c 6 = gr_own G ∧ c 7 = gr_fx G ∧ c 9 = gr_src G ∧ c 10 = gr_tg G ∧ c 11 = gr_wt G ∧
  (∀ v, v < 7 → c 8 v = nI (gr_out G v).length ∧ ∀ k, k < (gr_out G v).length → c (22 + v) k = nI ((gr_out G v).getD k 0))
theorem gi.ok {G : gr_T} {c : Nat → Nat → Int32} (h : gi G c) : gf_ok G := h.1
theorem gi.n7 {G : gr_T} {c : Nat → Nat → Int32} (h : gi G c) : gr_n G ≤ 7 := h.1.1
theorem gi.e24 {G : gr_T} {c : Nat → Nat → Int32} (h : gi G c) : gr_E G ≤ 24 := h.1.2.1
theorem gi.vc {G : gr_T} {c : Nat → Nat → Int32} (h : gi G c) : c 1 0 = nI (gr_n G) := h.2.1
theorem gi.ec {G : gr_T} {c : Nat → Nat → Int32} (h : gi G c) : c 1 1 = nI (gr_E G) := h.2.2.1
theorem gi.c6 {G : gr_T} {c : Nat → Nat → Int32} (h : gi G c) : c 6 = gr_own G := h.2.2.2.1
theorem gi.c7 {G : gr_T} {c : Nat → Nat → Int32} (h : gi G c) : c 7 = gr_fx G := h.2.2.2.2.1
theorem gi.c9 {G : gr_T} {c : Nat → Nat → Int32} (h : gi G c) : c 9 = gr_src G := h.2.2.2.2.2.1
theorem gi.c10 {G : gr_T} {c : Nat → Nat → Int32} (h : gi G c) : c 10 = gr_tg G := h.2.2.2.2.2.2.1
theorem gi.c11 {G : gr_T} {c : Nat → Nat → Int32} (h : gi G c) : c 11 = gr_wt G := h.2.2.2.2.2.2.2.1
theorem gi.rows {G : gr_T} {c : Nat → Nat → Int32} (h : gi G c) : ∀ v, v < 7 → c 8 v = nI (gr_out G v).length ∧ ∀ k, k < (gr_out G v).length → c (22 + v) k = nI ((gr_out G v).getD k 0) := h.2.2.2.2.2.2.2.2
theorem gf_ok.own {G : gr_T} (h : gf_ok G) : ∀ v, v < gr_n G → gr_own G v = 0 ∨ gr_own G v = 1 := h.2.2.1
theorem gf_ok.ed {G : gr_T} (h : gf_ok G) : ∀ e, e < gr_E G → (∃ a, a < gr_n G ∧ gr_src G e = nI a) ∧ (∃ b, b < gr_n G ∧ gr_tg G e = nI b) ∧ -9 ≤ (gr_wt G e).toInt ∧ (gr_wt G e).toInt ≤ 9 := h.2.2.2.1
theorem gf_ok.fx {G : gr_T} (h : gf_ok G) : ∀ v, v < gr_n G → gr_fx G v = -1 ∨ ∃ e, e < gr_E G ∧ gr_fx G v = nI e ∧ gr_src G e = nI v := h.2.2.2.2
/-- other cells change, the graph stays -/
theorem gi.up {G : gr_T} {c : Nat → Nat → Int32} {k : Nat} {f : Nat → Int32} (h : gi G c) (hk : 12 ≤ k ∧ k ≤ 20) : gi G (va_up c k f) := by
  have e : ∀ j, j < 12 ∨ 22 ≤ j → va_up c k f j = c j := fun j hj => if_neg (by omega)
  obtain ⟨h1, h2, h3, h4, h5, h6, h7, h8, h9⟩ := h
  refine ⟨h1, ?_, ?_, ?_, ?_, ?_, ?_, ?_, fun v hv => ?_⟩
  · rw [e 1 (by omega)]; exact h2
  · rw [e 1 (by omega)]; exact h3
  · rw [e 6 (by omega)]; exact h4
  · rw [e 7 (by omega)]; exact h5
  · rw [e 9 (by omega)]; exact h6
  · rw [e 10 (by omega)]; exact h7
  · rw [e 11 (by omega)]; exact h8
  · rw [e 8 (by omega), e (22 + v) (by omega)]; exact h9 v hv
theorem gp_out_mem {E : Nat} {src : Nat → Int32} {v e : Nat} : e ∈ gp_out E src v ↔ e < E ∧ src e = nI v := by
  simp [gp_out, List.mem_filter, List.mem_range]
theorem gp_out_len (E : Nat) (src : Nat → Int32) (v : Nat) : (gp_out E src v).length ≤ E := by
  have := List.length_filter_le (fun e => src e == nI v) (List.range E)
  simpa [gp_out] using this
theorem nI_ne1 {k : Nat} (h : k < 2 ^ 31) : nI k ≠ -1 := by
  intro q
  have a := nI_toInt h
  rw [q] at a
  have : (-1 : Int32).toInt = -1 := by decide
  omega
theorem gp_adj_ge {n E : Nat} {src fx : Nat → Int32} {v : Nat} (h : ¬ v < n) : gp_adj n E src fx v = [] := if_neg h
theorem gp_adj_free {n E : Nat} {src fx : Nat → Int32} {v : Nat} (h : v < n) (hf : fx v = -1) : gp_adj n E src fx v = gp_out E src v := by
  unfold gp_adj
  rw [if_pos h, if_pos hf]
theorem gp_adj_fix {n E : Nat} {src fx : Nat → Int32} {v e : Nat} (h : v < n) (hf : fx v = nI e) (he : e < 2 ^ 31) : gp_adj n E src fx v = [e] := by
  unfold gp_adj
  rw [if_pos h, if_neg (by rw [hf]; exact nI_ne1 he), hf, nI_clamp he]
theorem gr_adj_ge {G : gr_T} {v : Nat} (h : ¬ v < gr_n G) : gr_adj G v = [] := if_neg h
theorem gr_adj_free {G : gr_T} {v : Nat} (h : v < gr_n G) (hf : gr_fx G v = -1) : gr_adj G v = gr_out G v := gp_adj_free h hf
theorem gr_adj_fix {G : gr_T} {v e : Nat} (h : v < gr_n G) (hf : gr_fx G v = nI e) (he : e < 2 ^ 31) : gr_adj G v = [e] := gp_adj_fix h hf he
theorem gr_out_mem {G : gr_T} {v e : Nat} : e ∈ gr_out G v ↔ e < gr_E G ∧ gr_src G e = nI v := gp_out_mem
theorem gr_out_len (G : gr_T) (v : Nat) : (gr_out G v).length ≤ gr_E G := gp_out_len _ _ _
theorem gr_adj_mem {G : gr_T} {v e : Nat} (hg : gf_ok G) (hv : v < gr_n G) (he : e ∈ gr_adj G v) : e < gr_E G ∧ gr_src G e = nI v := by
  have h24 := hg.2.1
  rcases hg.fx v hv with hf | ⟨x, hx, hf, hs⟩
  · rw [gr_adj_free hv hf] at he
    exact gr_out_mem.mp he
  · rw [gr_adj_fix hv hf (by omega)] at he
    rw [List.mem_singleton.mp he]
    exact ⟨hx, hs⟩
theorem gr_adj_len {G : gr_T} (hg : gf_ok G) (v : Nat) : (gr_adj G v).length ≤ 24 := by
  have h24 := hg.2.1
  by_cases hv : v < gr_n G
  · rcases hg.fx v hv with hf | ⟨x, hx, hf, hs⟩
    · rw [gr_adj_free hv hf]
      have := gr_out_len G v
      omega
    · rw [gr_adj_fix hv hf (by omega)]
      simp
  · rw [gr_adj_ge hv]
    simp
theorem gr_adj_at {G : gr_T} {v k : Nat} (hg : gf_ok G) (hv : v < gr_n G) (hk : k < (gr_adj G v).length) : (gr_adj G v).getD k 0 ∈ gr_adj G v := by
  rw [List.getD_eq_getElem?_getD, List.getElem?_eq_getElem hk]
  exact List.getElem_mem hk
theorem gr_tgt_lt {G : gr_T} {e : Nat} (hg : gf_ok G) (he : e < gr_E G) : gr_tgt G e < gr_n G ∧ gr_tg G e = nI (gr_tgt G e) := by
  have h7 := hg.1
  obtain ⟨b, hb, h⟩ := (hg.ed e he).2.1
  have e1 : gr_tgt G e = b := by
    show (if e < gr_E G then (gr_tg G e).toNatClampNeg else 0) = b
    rw [if_pos he, h, nI_clamp (by omega)]
  rw [e1]
  exact ⟨hb, h⟩
theorem gr_w_eq {G : gr_T} {e : Nat} (he : e < gr_E G) : gr_w G e = (gr_wt G e).toInt := if_pos he
theorem gr_tgts {G : gr_T} (hg : gf_ok G) : ∀ v, v < gr_n G → ∀ e ∈ gr_adj G v, gr_tgt G e < gr_n G := fun v hv e he => (gr_tgt_lt hg (gr_adj_mem hg hv he).1).1
theorem gr_ws {G : gr_T} (hg : gf_ok G) : ∀ v, v < gr_n G → ∀ e ∈ gr_adj G v, -9 ≤ gr_w G e ∧ gr_w G e ≤ 9 := fun v hv e he => by
  have h := (gr_adj_mem hg hv he).1
  rw [gr_w_eq h]
  exact (hg.ed e h).2.2
/-- a vertex of the game: hasVertex's answer -/
def hv_P (n : Nat) (v r : Int32) : Prop := (r = 1 ∧ ∃ j, j < n ∧ v = nI j) ∨ (r = 0 ∧ ¬ ∃ j, j < n ∧ v = nI j)
theorem hv_neg {n : Nat} {v : Int32} (hn : n ≤ 7) (h : v < 0) : hv_P n v 0 := by
  refine Or.inr ⟨rfl, ?_⟩
  rintro ⟨j, hj, rfl⟩
  exact nI_pos (by omega) h
theorem hv_ge {n : Nat} {v x : Int32} (hn : n ≤ 7) (hx : x = nI n) (h : x ≤ v) : hv_P n v 0 := by
  refine Or.inr ⟨rfl, ?_⟩
  rintro ⟨j, hj, rfl⟩
  subst hx
  exact nI_ge hj (by omega) h
theorem hv_7 {n : Nat} {v : Int32} (hn : n ≤ 7) (h : (7 : Int32) ≤ v) : hv_P n v 0 := by
  refine Or.inr ⟨rfl, ?_⟩
  rintro ⟨j, hj, rfl⟩
  exact nI_ge (show j < 7 by omega) (by omega) h
theorem hv_ok {n : Nat} {v x : Int32} (hn : n ≤ 7) (hx : x = nI n) (h0 : ¬ v < 0) (h : ¬ x ≤ v) : hv_P n v 1 := by
  rcases pk_ix v (n := n) (by omega) with h1 | h1 | h1
  · exact absurd h1 h0
  · exact absurd (hx ▸ h1) h
  · exact Or.inl ⟨rfl, h1⟩
theorem hv_nlt {n j : Nat} {r : Int32} (w : hv_P n (nI j) r) (b : r = 0) : ¬ j < n := by
  intro h
  rcases w with ⟨h1, -⟩ | ⟨-, h2⟩
  · rw [h1] at b
    exact absurd b (by decide)
  · exact h2 ⟨j, h, rfl⟩
theorem hv_lt {n j : Nat} {r : Int32} (hn : n ≤ 7) (hj : j < 2 ^ 31) (w : hv_P n (nI j) r) (b : ¬ r = 0) : j < n := by
  rcases w with ⟨-, k, hk, he⟩ | ⟨h1, -⟩
  · rw [(nI_eq hj (by omega)).mp he]
    exact hk
  · exact absurd h1 b
theorem hv_one {n j : Nat} {r : Int32} (h : j < n) (w : hv_P n (nI j) r) : r = 1 := by
  rcases w with ⟨h1, -⟩ | ⟨-, h2⟩
  · exact h1
  · exact absurd ⟨j, h, rfl⟩ h2
theorem xw_row0 {j : Nat} (h : j < 7) : 0 < xw_l (22 + j) := by
  rcases (show j = 0 ∨ j = 1 ∨ j = 2 ∨ j = 3 ∨ j = 4 ∨ j = 5 ∨ j = 6 by omega) with rfl | rfl | rfl | rfl | rfl | rfl | rfl <;> decide
theorem xw_rowl {j k : Nat} (h : j < 7) (hk : k < 24) : k < xw_l (22 + j) := by
  rcases (show j = 0 ∨ j = 1 ∨ j = 2 ∨ j = 3 ∨ j = 4 ∨ j = 5 ∨ j = 6 by omega) with rfl | rfl | rfl | rfl | rfl | rfl | rfl <;> exact hk
/-- an edge from a vertex: isFrom's answer -/
def hf_P (src : Nat → Int32) (E : Nat) (x v r : Int32) : Prop := (r = 1 ∧ ∃ k, k < E ∧ x = nI k ∧ src k = v) ∨ (r = 0 ∧ ¬ ∃ k, k < E ∧ x = nI k ∧ src k = v)
theorem hf_neg {src : Nat → Int32} {E : Nat} {x v : Int32} (hE : E ≤ 24) (h : x < 0) : hf_P src E x v 0 := by
  refine Or.inr ⟨rfl, ?_⟩
  rintro ⟨j, hj, rfl, -⟩
  exact nI_pos (by omega) h
theorem hf_ge {src : Nat → Int32} {E : Nat} {x v y : Int32} (hE : E ≤ 24) (hy : y = nI E) (h : y ≤ x) : hf_P src E x v 0 := by
  refine Or.inr ⟨rfl, ?_⟩
  rintro ⟨j, hj, rfl, -⟩
  subst hy
  exact nI_ge hj (by omega) h
theorem hf_24 {src : Nat → Int32} {E : Nat} {x v : Int32} (hE : E ≤ 24) (h : (24 : Int32) ≤ x) : hf_P src E x v 0 := by
  refine Or.inr ⟨rfl, ?_⟩
  rintro ⟨j, hj, rfl, -⟩
  exact nI_ge (show j < 24 by omega) (by omega) h
theorem ix_of {n : Nat} {v x : Int32} (hn : n ≤ 100) (hx : x = nI n) (h0 : ¬ v < 0) (h : ¬ x ≤ v) : ∃ j, j < n ∧ v = nI j := by
  rcases pk_ix v (n := n) (by omega) with h1 | h1 | h1
  · exact absurd h1 h0
  · exact absurd (hx ▸ h1) h
  · exact h1
end
section
/-! ===== CreditGame$Graph: the methods that read ===== -/
theorem iw_X1_hasVertex_X1 : ∀ w ∈ wsX10, w ∈ wsX1_hasVertex := by decide +kernel
set_option maxHeartbeats 4000000 in
set_option maxRecDepth 100000 in
/-- is it a vertex -/
theorem ct_hasVertex (l : Launch) (en : en_T) (ad : Nat → Nat) (c : Nat → Nat → Int32) {G : gr_T} (hg : gi G c) (v : Int32) : Met l yX1_hasVertex wsX1_hasVertex (rm_ 1 0 0) (ct_Pc en [.ref (ad 1), .int v] (fun H => va_P en.1 vwCl (xw en ad c) H)) (ro_Qi (fun r => hv_P (gr_n G) v r)) 0 0 (fun _ => False) := by
  refine Met.ofW (cc := cX1_hasVertex) (maxL := 2) (ret := (some .boolean)) (by decide) rfl ?_
  intro p e s m args below meth co s₁ B hml hv
  obtain ⟨rfl, hE, hP⟩ := hv
  have hx := B.exec
  have hb := B.bytes
  have hr := B.returns
  have hts := atoms_spec (ws := wsX1_hasVertex) B.pre
  have hown : s.vm.findClass RX1 = some m.cls := findClass_of_methodNamed B.named
  have hlocks := B.notSynchronized
  have hl := lv_entry ([.ref (ad 1), .int v]) (n := 2) (Nat.le_of_ble_eq_true rfl)
  rw [lg_entry_eq]
  generalize (lg_sl ([.ref (ad 1), .int v]) ++ List.replicate (2 - (lg_sl ([.ref (ad 1), .int v])).length) Slot.unset).toArray = ls at hl ⊢
  have hl : lv_has ls 2 [(0, .ref (ad 1)), (1, .int v)] := hl
  refine lv_iload_n hx hb dX1_hasVertex_0 rfl (lv_at hl 1 rfl) ?_
  refine lv_if_lt (tgt := 22) hx hb dX1_hasVertex_1 (by decide) (fun b1 => ?_) (fun b1 => ?_)
  · skip
    refine lv_iconst (v := 0) hx hb dX1_hasVertex_22 (by decide) ?_
    exact W.zret (v := 0) (ty := .boolean) hx hb hr rfl (fun t ht hW => ⟨_, rfl, (by first | exact hv_neg hg.n7 b1 | exact hv_ge hg.n7 hg.vc b9 | exact hv_7 hg.n7 b15), ht⟩) (fun q h => by cases h) dX1_hasVertex_23
  · skip
    refine lv_iload_n hx hb dX1_hasVertex_4 rfl (lv_at hl 1 rfl) ?_
    refine lv_aload_n hx hb dX1_hasVertex_5 rfl (lv_at hl 0 rfl) ?_
    refine va_get (D := en.1) (ci := 1) (v := .int (c 1 0)) (C := RX1) (T := TX1) (N := 9) hx hb hts iw_X1_hasVertex_X1 hown hE.1 hP 1 rfl rfl 7 (by decide) (hts (.fieldLink RX1 35 "CreditGame$Graph" "vertexCount" "I") (by decide +kernel)) (fun _ h9 => h9) rfl dX1_hasVertex_6 ?_
    refine lv_icmp_ge (tgt := 22) hx hb dX1_hasVertex_9 (by decide) (fun b9 => ?_) (fun b9 => ?_)
    · skip
      refine lv_iconst (v := 0) hx hb dX1_hasVertex_22 (by decide) ?_
      exact W.zret (v := 0) (ty := .boolean) hx hb hr rfl (fun t ht hW => ⟨_, rfl, (by first | exact hv_neg hg.n7 b1 | exact hv_ge hg.n7 hg.vc b9 | exact hv_7 hg.n7 b15), ht⟩) (fun q h => by cases h) dX1_hasVertex_23
    · skip
      refine lv_iload_n hx hb dX1_hasVertex_12 rfl (lv_at hl 1 rfl) ?_
      refine lv_bipush (v := 7) hx hb dX1_hasVertex_13 (by decide) ?_
      refine lv_icmp_ge (tgt := 22) hx hb dX1_hasVertex_15 (by decide) (fun b15 => ?_) (fun b15 => ?_)
      · skip
        refine lv_iconst (v := 0) hx hb dX1_hasVertex_22 (by decide) ?_
        exact W.zret (v := 0) (ty := .boolean) hx hb hr rfl (fun t ht hW => ⟨_, rfl, (by first | exact hv_neg hg.n7 b1 | exact hv_ge hg.n7 hg.vc b9 | exact hv_7 hg.n7 b15), ht⟩) (fun q h => by cases h) dX1_hasVertex_23
      · skip
        refine lv_iconst (v := 1) hx hb dX1_hasVertex_18 (by decide) ?_
        refine lv_goto (tgt := 23) hx hb dX1_hasVertex_19 (by decide) ?_
        exact W.zret (v := 1) (ty := .boolean) hx hb hr rfl (fun t ht hW => ⟨_, rfl, (hv_ok hg.n7 hg.vc b1 b9), ht⟩) (fun q h => by cases h) dX1_hasVertex_23
theorem iw_X1_isFrom_X1 : ∀ w ∈ wsX10, w ∈ wsX1_isFrom := by decide +kernel
set_option maxHeartbeats 4000000 in
set_option maxRecDepth 100000 in
/-- is it an edge from the vertex -/
theorem ct_isFrom (l : Launch) (en : en_T) (ad : Nat → Nat) (c : Nat → Nat → Int32) {G : gr_T} (hg : gi G c) (x v : Int32) : Met l yX1_isFrom wsX1_isFrom (rm_ 1 0 0) (ct_Pc en [.ref (ad 1), .int x, .int v] (fun H => va_P en.1 vwCl (xw en ad c) H)) (ro_Qi (fun r => hf_P (gr_src G) (gr_E G) x v r)) 0 0 (fun _ => False) := by
  refine Met.ofW (cc := cX1_isFrom) (maxL := 3) (ret := (some .boolean)) (by decide) rfl ?_
  intro p e s m args below meth co s₁ B hml hv
  obtain ⟨rfl, hE, hP⟩ := hv
  have hx := B.exec
  have hb := B.bytes
  have hr := B.returns
  have hts := atoms_spec (ws := wsX1_isFrom) B.pre
  have hown : s.vm.findClass RX1 = some m.cls := findClass_of_methodNamed B.named
  have hlocks := B.notSynchronized
  have hl := lv_entry ([.ref (ad 1), .int x, .int v]) (n := 3) (Nat.le_of_ble_eq_true rfl)
  rw [lg_entry_eq]
  generalize (lg_sl ([.ref (ad 1), .int x, .int v]) ++ List.replicate (3 - (lg_sl ([.ref (ad 1), .int x, .int v])).length) Slot.unset).toArray = ls at hl ⊢
  have hl : lv_has ls 3 [(0, .ref (ad 1)), (1, .int x), (2, .int v)] := hl
  refine lv_iload_n hx hb dX1_isFrom_0 rfl (lv_at hl 1 rfl) ?_
  refine lv_if_lt (tgt := 32) hx hb dX1_isFrom_1 (by decide) (fun b1 => ?_) (fun b1 => ?_)
  · skip
    refine lv_iconst (v := 0) hx hb dX1_isFrom_32 (by decide) ?_
    exact W.zret (v := 0) (ty := .boolean) hx hb hr rfl (fun t ht hW => ⟨_, rfl, (by first | exact hf_neg hg.e24 b1 | exact hf_ge hg.e24 hg.ec b9 | exact hf_24 hg.e24 b15 | (refine Or.inr ⟨rfl, ?_⟩; rintro ⟨j, hj, he, hc⟩; rw [(nI_eq (by have := hg.e24; omega) (by have := hg.e24; omega)).mp he] at b25; rw [hg.c9] at b25; exact b25 hc)), ht⟩) (fun q h => by cases h) dX1_isFrom_33
  · skip
    refine lv_iload_n hx hb dX1_isFrom_4 rfl (lv_at hl 1 rfl) ?_
    refine lv_aload_n hx hb dX1_isFrom_5 rfl (lv_at hl 0 rfl) ?_
    refine va_get (D := en.1) (ci := 1) (v := .int (c 1 1)) (C := RX1) (T := TX1) (N := 9) hx hb hts iw_X1_isFrom_X1 hown hE.1 hP 1 rfl rfl 8 (by decide) (hts (.fieldLink RX1 39 "CreditGame$Graph" "edgeCount" "I") (by decide +kernel)) (fun _ h9 => h9) rfl dX1_isFrom_6 ?_
    refine lv_icmp_ge (tgt := 32) hx hb dX1_isFrom_9 (by decide) (fun b9 => ?_) (fun b9 => ?_)
    · skip
      refine lv_iconst (v := 0) hx hb dX1_isFrom_32 (by decide) ?_
      exact W.zret (v := 0) (ty := .boolean) hx hb hr rfl (fun t ht hW => ⟨_, rfl, (by first | exact hf_neg hg.e24 b1 | exact hf_ge hg.e24 hg.ec b9 | exact hf_24 hg.e24 b15 | (refine Or.inr ⟨rfl, ?_⟩; rintro ⟨j, hj, he, hc⟩; rw [(nI_eq (by have := hg.e24; omega) (by have := hg.e24; omega)).mp he] at b25; rw [hg.c9] at b25; exact b25 hc)), ht⟩) (fun q h => by cases h) dX1_isFrom_33
    · skip
      refine lv_iload_n hx hb dX1_isFrom_12 rfl (lv_at hl 1 rfl) ?_
      refine lv_bipush (v := 24) hx hb dX1_isFrom_13 (by decide) ?_
      refine lv_icmp_ge (tgt := 32) hx hb dX1_isFrom_15 (by decide) (fun b15 => ?_) (fun b15 => ?_)
      · skip
        refine lv_iconst (v := 0) hx hb dX1_isFrom_32 (by decide) ?_
        exact W.zret (v := 0) (ty := .boolean) hx hb hr rfl (fun t ht hW => ⟨_, rfl, (by first | exact hf_neg hg.e24 b1 | exact hf_ge hg.e24 hg.ec b9 | exact hf_24 hg.e24 b15 | (refine Or.inr ⟨rfl, ?_⟩; rintro ⟨j, hj, he, hc⟩; rw [(nI_eq (by have := hg.e24; omega) (by have := hg.e24; omega)).mp he] at b25; rw [hg.c9] at b25; exact b25 hc)), ht⟩) (fun q h => by cases h) dX1_isFrom_33
      · skip
        obtain ⟨k, hk, rfl⟩ := ix_of (by have := hg.e24; omega) hg.ec b1 b9
        skip
        refine lv_aload_n hx hb dX1_isFrom_18 rfl (lv_at hl 0 rfl) ?_
        refine va_get (D := en.1) (ci := 1) (v := .ref (ad 9)) (C := RX1) (T := TX1) (N := 9) hx hb hts iw_X1_isFrom_X1 hown hE.1 hP 1 rfl rfl 4 (by decide) (hts (.fieldLink RX1 26 "CreditGame$Graph" "source" "[I") (by decide +kernel)) (fun _ h9 => h9) rfl dX1_isFrom_19 ?_
        refine lv_iload_n hx hb dX1_isFrom_22 rfl (lv_at hl 1 rfl) ?_
        refine xr_ild hx hb hE hP 9 (by decide) k rfl (show _ < 24 by have := hg.e24; omega) dX1_isFrom_23 ?_
        refine lv_iload_n hx hb dX1_isFrom_24 rfl (lv_at hl 2 rfl) ?_
        refine lv_icmp_ne (tgt := 32) hx hb dX1_isFrom_25 (by decide) (fun b25 => ?_) (fun b25 => ?_)
        · skip
          refine lv_iconst (v := 0) hx hb dX1_isFrom_32 (by decide) ?_
          exact W.zret (v := 0) (ty := .boolean) hx hb hr rfl (fun t ht hW => ⟨_, rfl, (by first | exact hf_neg hg.e24 b1 | exact hf_ge hg.e24 hg.ec b9 | exact hf_24 hg.e24 b15 | (refine Or.inr ⟨rfl, ?_⟩; rintro ⟨j, hj, he, hc⟩; rw [(nI_eq (by have := hg.e24; omega) (by have := hg.e24; omega)).mp he] at b25; rw [hg.c9] at b25; exact b25 hc)), ht⟩) (fun q h => by cases h) dX1_isFrom_33
        · skip
          refine lv_iconst (v := 1) hx hb dX1_isFrom_28 (by decide) ?_
          refine lv_goto (tgt := 33) hx hb dX1_isFrom_29 (by decide) ?_
          exact W.zret (v := 1) (ty := .boolean) hx hb hr rfl (fun t ht hW => ⟨_, rfl, (Or.inl ⟨rfl, k, hk, rfl, by rw [← hg.c9]; exact b25⟩), ht⟩) (fun q h => by cases h) dX1_isFrom_33
theorem iw_X1_ownerOf_X1 : ∀ w ∈ wsX10, w ∈ wsX1_ownerOf := by decide +kernel
set_option maxHeartbeats 4000000 in
set_option maxRecDepth 100000 in
/--  -/
theorem ct_ownerOf (l : Launch) (en : en_T) (ad : Nat → Nat) (c : Nat → Nat → Int32) {G : gr_T} (hg : gi G c) (j : Nat) (hj : j < 7) : Met l yX1_ownerOf wsX1_ownerOf (rm_ 2 0 0) (ct_Pc en [.ref (ad 1), .int (nI j)] (fun H => va_P en.1 vwCl (xw en ad c) H)) (ro_Qi (fun r => r = if j < gr_n G then gr_own G j else 0)) 0 0 (fun _ => False) := by
  refine Met.ofW (cc := cX1_ownerOf) (maxL := 2) (ret := (some .int)) (by decide) rfl ?_
  intro p e s m args below meth co s₁ B hml hv
  obtain ⟨rfl, hE, hP⟩ := hv
  have hx := B.exec
  have hb := B.bytes
  have hr := B.returns
  have hts := atoms_spec (ws := wsX1_ownerOf) B.pre
  have hown : s.vm.findClass RX1 = some m.cls := findClass_of_methodNamed B.named
  have hlocks := B.notSynchronized
  have hl := lv_entry ([.ref (ad 1), .int (nI j)]) (n := 2) (Nat.le_of_ble_eq_true rfl)
  rw [lg_entry_eq]
  generalize (lg_sl ([.ref (ad 1), .int (nI j)]) ++ List.replicate (2 - (lg_sl ([.ref (ad 1), .int (nI j)])).length) Slot.unset).toArray = ls at hl ⊢
  have hl : lv_has ls 2 [(0, .ref (ad 1)), (1, .int (nI j))] := hl
  refine lv_aload_n hx hb dX1_ownerOf_0 rfl (lv_at hl 0 rfl) ?_
  refine lv_iload_n hx hb dX1_ownerOf_1 rfl (lv_at hl 1 rfl) ?_
  refine ro_calli (va_runV (As := [.int (nI j)]) (rest := []) ⟨hx, hb, hml, hown, hts⟩ (ct_hasVertex l en ad c hg (nI j)) (cwV 1 hts gX1_ownerOf_X1_hasVertex rfl rfl rfl (by decide +kernel) ⟨Nat.le_of_ble_eq_true rfl, Nat.le_of_ble_eq_true rfl⟩) (ct_preV hE (va_recv hE.1 hP (ci := 1) (q0 := 1) rfl rfl) hP) rfl rfl hl.1 rfl (lv_room (Nat.le_of_ble_eq_true rfl)) dX1_ownerOf_2 ⟨Nat.le_of_ble_eq_true rfl, Nat.le_of_ble_eq_true rfl⟩) (fun r2 w2 => ?_)
  refine lv_if_eq (tgt := 17) hx hb dX1_ownerOf_5 (by decide) (fun b5 => ?_) (fun b5 => ?_)
  · skip
    refine lv_iconst (v := 0) hx hb dX1_ownerOf_17 (by decide) ?_
    exact W.iret (v := 0) hx hb hr (fun t ht hW => ⟨_, rfl, (by first | exact (if_neg (hv_nlt w2 b5)).symm | exact (by rw [if_pos (hv_lt hg.n7 (by omega) w2 b5), hg.c6])), ht⟩) (fun q h => by cases h) dX1_ownerOf_18
  · skip
    refine lv_aload_n hx hb dX1_ownerOf_8 rfl (lv_at hl 0 rfl) ?_
    refine va_get (D := en.1) (ci := 1) (v := .ref (ad 6)) (C := RX1) (T := TX1) (N := 9) hx hb hts iw_X1_ownerOf_X1 hown hE.1 hP 1 rfl rfl 0 (by decide) (hts (.fieldLink RX1 9 "CreditGame$Graph" "owner" "[I") (by decide +kernel)) (fun _ h9 => h9) rfl dX1_ownerOf_9 ?_
    refine lv_iload_n hx hb dX1_ownerOf_12 rfl (lv_at hl 1 rfl) ?_
    refine xr_ild hx hb hE hP 6 (by decide) j rfl (show _ < 7 by omega) dX1_ownerOf_13 ?_
    refine lv_goto (tgt := 18) hx hb dX1_ownerOf_14 (by decide) ?_
    exact W.iret (v := (c 6 j)) hx hb hr (fun t ht hW => ⟨_, rfl, (by first | exact (if_neg (hv_nlt w2 b5)).symm | exact (by rw [if_pos (hv_lt hg.n7 (by omega) w2 b5), hg.c6])), ht⟩) (fun q h => by cases h) dX1_ownerOf_18
theorem iw_X1_fixedOf_X1 : ∀ w ∈ wsX10, w ∈ wsX1_fixedOf := by decide +kernel
set_option maxHeartbeats 4000000 in
set_option maxRecDepth 100000 in
/--  -/
theorem ct_fixedOf (l : Launch) (en : en_T) (ad : Nat → Nat) (c : Nat → Nat → Int32) {G : gr_T} (hg : gi G c) (j : Nat) (hj : j < 7) : Met l yX1_fixedOf wsX1_fixedOf (rm_ 2 0 0) (ct_Pc en [.ref (ad 1), .int (nI j)] (fun H => va_P en.1 vwCl (xw en ad c) H)) (ro_Qi (fun r => r = if j < gr_n G then gr_fx G j else (-1))) 0 0 (fun _ => False) := by
  refine Met.ofW (cc := cX1_fixedOf) (maxL := 2) (ret := (some .int)) (by decide) rfl ?_
  intro p e s m args below meth co s₁ B hml hv
  obtain ⟨rfl, hE, hP⟩ := hv
  have hx := B.exec
  have hb := B.bytes
  have hr := B.returns
  have hts := atoms_spec (ws := wsX1_fixedOf) B.pre
  have hown : s.vm.findClass RX1 = some m.cls := findClass_of_methodNamed B.named
  have hlocks := B.notSynchronized
  have hl := lv_entry ([.ref (ad 1), .int (nI j)]) (n := 2) (Nat.le_of_ble_eq_true rfl)
  rw [lg_entry_eq]
  generalize (lg_sl ([.ref (ad 1), .int (nI j)]) ++ List.replicate (2 - (lg_sl ([.ref (ad 1), .int (nI j)])).length) Slot.unset).toArray = ls at hl ⊢
  have hl : lv_has ls 2 [(0, .ref (ad 1)), (1, .int (nI j))] := hl
  refine lv_aload_n hx hb dX1_fixedOf_0 rfl (lv_at hl 0 rfl) ?_
  refine lv_iload_n hx hb dX1_fixedOf_1 rfl (lv_at hl 1 rfl) ?_
  refine ro_calli (va_runV (As := [.int (nI j)]) (rest := []) ⟨hx, hb, hml, hown, hts⟩ (ct_hasVertex l en ad c hg (nI j)) (cwV 1 hts gX1_fixedOf_X1_hasVertex rfl rfl rfl (by decide +kernel) ⟨Nat.le_of_ble_eq_true rfl, Nat.le_of_ble_eq_true rfl⟩) (ct_preV hE (va_recv hE.1 hP (ci := 1) (q0 := 1) rfl rfl) hP) rfl rfl hl.1 rfl (lv_room (Nat.le_of_ble_eq_true rfl)) dX1_fixedOf_2 ⟨Nat.le_of_ble_eq_true rfl, Nat.le_of_ble_eq_true rfl⟩) (fun r2 w2 => ?_)
  refine lv_if_eq (tgt := 17) hx hb dX1_fixedOf_5 (by decide) (fun b5 => ?_) (fun b5 => ?_)
  · skip
    refine lv_iconst (v := (-1)) hx hb dX1_fixedOf_17 (by decide) ?_
    exact W.iret (v := (-1)) hx hb hr (fun t ht hW => ⟨_, rfl, (by first | exact (if_neg (hv_nlt w2 b5)).symm | exact (by rw [if_pos (hv_lt hg.n7 (by omega) w2 b5), hg.c7])), ht⟩) (fun q h => by cases h) dX1_fixedOf_18
  · skip
    refine lv_aload_n hx hb dX1_fixedOf_8 rfl (lv_at hl 0 rfl) ?_
    refine va_get (D := en.1) (ci := 1) (v := .ref (ad 7)) (C := RX1) (T := TX1) (N := 9) hx hb hts iw_X1_fixedOf_X1 hown hE.1 hP 1 rfl rfl 1 (by decide) (hts (.fieldLink RX1 15 "CreditGame$Graph" "fixedTo" "[I") (by decide +kernel)) (fun _ h9 => h9) rfl dX1_fixedOf_9 ?_
    refine lv_iload_n hx hb dX1_fixedOf_12 rfl (lv_at hl 1 rfl) ?_
    refine xr_ild hx hb hE hP 7 (by decide) j rfl (show _ < 7 by omega) dX1_fixedOf_13 ?_
    refine lv_goto (tgt := 18) hx hb dX1_fixedOf_14 (by decide) ?_
    exact W.iret (v := (c 7 j)) hx hb hr (fun t ht hW => ⟨_, rfl, (by first | exact (if_neg (hv_nlt w2 b5)).symm | exact (by rw [if_pos (hv_lt hg.n7 (by omega) w2 b5), hg.c7])), ht⟩) (fun q h => by cases h) dX1_fixedOf_18
theorem iw_X1_targetOf_X1 : ∀ w ∈ wsX10, w ∈ wsX1_targetOf := by decide +kernel
set_option maxHeartbeats 4000000 in
set_option maxRecDepth 100000 in
/--  -/
theorem ct_targetOf (l : Launch) (en : en_T) (ad : Nat → Nat) (c : Nat → Nat → Int32) {G : gr_T} (hg : gi G c) (x : Nat) (hx2 : x < 24) : Met l yX1_targetOf wsX1_targetOf (rm_ 1 0 0) (ct_Pc en [.ref (ad 1), .int (nI x)] (fun H => va_P en.1 vwCl (xw en ad c) H)) (ro_Qi (fun r => r = gr_tg G x)) 0 0 (fun _ => False) := by
  refine Met.ofW (cc := cX1_targetOf) (maxL := 2) (ret := (some .int)) (by decide) rfl ?_
  intro p e s m args below meth co s₁ B hml hv
  obtain ⟨rfl, hE, hP⟩ := hv
  have hx := B.exec
  have hb := B.bytes
  have hr := B.returns
  have hts := atoms_spec (ws := wsX1_targetOf) B.pre
  have hown : s.vm.findClass RX1 = some m.cls := findClass_of_methodNamed B.named
  have hlocks := B.notSynchronized
  have hl := lv_entry ([.ref (ad 1), .int (nI x)]) (n := 2) (Nat.le_of_ble_eq_true rfl)
  rw [lg_entry_eq]
  generalize (lg_sl ([.ref (ad 1), .int (nI x)]) ++ List.replicate (2 - (lg_sl ([.ref (ad 1), .int (nI x)])).length) Slot.unset).toArray = ls at hl ⊢
  have hl : lv_has ls 2 [(0, .ref (ad 1)), (1, .int (nI x))] := hl
  refine lv_iload_n hx hb dX1_targetOf_0 rfl (lv_at hl 1 rfl) ?_
  refine lv_if_lt (tgt := 19) hx hb dX1_targetOf_1 (by decide) (fun b1 => absurd b1 (nI_pos (by omega))) (fun b1 => ?_)
  refine lv_iload_n hx hb dX1_targetOf_4 rfl (lv_at hl 1 rfl) ?_
  refine lv_bipush (v := (nI 24)) hx hb dX1_targetOf_5 (by decide) ?_
  refine lv_icmp_ge (tgt := 19) hx hb dX1_targetOf_7 (by decide) (fun b7 => absurd b7 (nI_ge (show x < 24 by omega) (by omega))) (fun b7 => ?_)
  refine lv_aload_n hx hb dX1_targetOf_10 rfl (lv_at hl 0 rfl) ?_
  refine va_get (D := en.1) (ci := 1) (v := .ref (ad 10)) (C := RX1) (T := TX1) (N := 9) hx hb hts iw_X1_targetOf_X1 hown hE.1 hP 1 rfl rfl 5 (by decide) (hts (.fieldLink RX1 29 "CreditGame$Graph" "target" "[I") (by decide +kernel)) (fun _ h9 => h9) rfl dX1_targetOf_11 ?_
  refine lv_iload_n hx hb dX1_targetOf_14 rfl (lv_at hl 1 rfl) ?_
  refine xr_ild hx hb hE hP 10 (by decide) x rfl (show _ < 24 by omega) dX1_targetOf_15 ?_
  refine lv_goto (tgt := 20) hx hb dX1_targetOf_16 (by decide) ?_
  exact W.iret (v := (c 10 x)) hx hb hr (fun t ht hW => ⟨_, rfl, (by rw [hg.c10]), ht⟩) (fun q h => by cases h) dX1_targetOf_20
theorem iw_X1_weightOf_X1 : ∀ w ∈ wsX10, w ∈ wsX1_weightOf := by decide +kernel
set_option maxHeartbeats 4000000 in
set_option maxRecDepth 100000 in
/--  -/
theorem ct_weightOf (l : Launch) (en : en_T) (ad : Nat → Nat) (c : Nat → Nat → Int32) {G : gr_T} (hg : gi G c) (x : Nat) (hx2 : x < 24) : Met l yX1_weightOf wsX1_weightOf (rm_ 1 0 0) (ct_Pc en [.ref (ad 1), .int (nI x)] (fun H => va_P en.1 vwCl (xw en ad c) H)) (ro_Qi (fun r => r = gr_wt G x)) 0 0 (fun _ => False) := by
  refine Met.ofW (cc := cX1_weightOf) (maxL := 2) (ret := (some .int)) (by decide) rfl ?_
  intro p e s m args below meth co s₁ B hml hv
  obtain ⟨rfl, hE, hP⟩ := hv
  have hx := B.exec
  have hb := B.bytes
  have hr := B.returns
  have hts := atoms_spec (ws := wsX1_weightOf) B.pre
  have hown : s.vm.findClass RX1 = some m.cls := findClass_of_methodNamed B.named
  have hlocks := B.notSynchronized
  have hl := lv_entry ([.ref (ad 1), .int (nI x)]) (n := 2) (Nat.le_of_ble_eq_true rfl)
  rw [lg_entry_eq]
  generalize (lg_sl ([.ref (ad 1), .int (nI x)]) ++ List.replicate (2 - (lg_sl ([.ref (ad 1), .int (nI x)])).length) Slot.unset).toArray = ls at hl ⊢
  have hl : lv_has ls 2 [(0, .ref (ad 1)), (1, .int (nI x))] := hl
  refine lv_iload_n hx hb dX1_weightOf_0 rfl (lv_at hl 1 rfl) ?_
  refine lv_if_lt (tgt := 19) hx hb dX1_weightOf_1 (by decide) (fun b1 => absurd b1 (nI_pos (by omega))) (fun b1 => ?_)
  refine lv_iload_n hx hb dX1_weightOf_4 rfl (lv_at hl 1 rfl) ?_
  refine lv_bipush (v := (nI 24)) hx hb dX1_weightOf_5 (by decide) ?_
  refine lv_icmp_ge (tgt := 19) hx hb dX1_weightOf_7 (by decide) (fun b7 => absurd b7 (nI_ge (show x < 24 by omega) (by omega))) (fun b7 => ?_)
  refine lv_aload_n hx hb dX1_weightOf_10 rfl (lv_at hl 0 rfl) ?_
  refine va_get (D := en.1) (ci := 1) (v := .ref (ad 11)) (C := RX1) (T := TX1) (N := 9) hx hb hts iw_X1_weightOf_X1 hown hE.1 hP 1 rfl rfl 6 (by decide) (hts (.fieldLink RX1 32 "CreditGame$Graph" "weight" "[I") (by decide +kernel)) (fun _ h9 => h9) rfl dX1_weightOf_11 ?_
  refine lv_iload_n hx hb dX1_weightOf_14 rfl (lv_at hl 1 rfl) ?_
  refine xr_ild hx hb hE hP 11 (by decide) x rfl (show _ < 24 by omega) dX1_weightOf_15 ?_
  refine lv_goto (tgt := 20) hx hb dX1_weightOf_16 (by decide) ?_
  exact W.iret (v := (c 11 x)) hx hb hr (fun t ht hW => ⟨_, rfl, (by rw [hg.c11]), ht⟩) (fun q h => by cases h) dX1_weightOf_20
theorem iw_X1_waysFrom_X1 : ∀ w ∈ wsX10, w ∈ wsX1_waysFrom := by decide +kernel
set_option maxHeartbeats 4000000 in
set_option maxRecDepth 100000 in
/-- how many edges lead on -/
theorem ct_waysFrom (l : Launch) (en : en_T) (ad : Nat → Nat) (c : Nat → Nat → Int32) {G : gr_T} (hg : gi G c) (j : Nat) (hj : j < 7) : Met l yX1_waysFrom wsX1_waysFrom (rm_ 2 0 0) (ct_Pc en [.ref (ad 1), .int (nI j)] (fun H => va_P en.1 vwCl (xw en ad c) H)) (ro_Qi (fun r => r = nI (gr_adj G j).length)) 0 0 (fun _ => False) := by
  refine Met.ofW (cc := cX1_waysFrom) (maxL := 2) (ret := (some .int)) (by decide) rfl ?_
  intro p e s m args below meth co s₁ B hml hv
  obtain ⟨rfl, hE, hP⟩ := hv
  have hx := B.exec
  have hb := B.bytes
  have hr := B.returns
  have hts := atoms_spec (ws := wsX1_waysFrom) B.pre
  have hown : s.vm.findClass RX1 = some m.cls := findClass_of_methodNamed B.named
  have hlocks := B.notSynchronized
  have hl := lv_entry ([.ref (ad 1), .int (nI j)]) (n := 2) (Nat.le_of_ble_eq_true rfl)
  rw [lg_entry_eq]
  generalize (lg_sl ([.ref (ad 1), .int (nI j)]) ++ List.replicate (2 - (lg_sl ([.ref (ad 1), .int (nI j)])).length) Slot.unset).toArray = ls at hl ⊢
  have hl : lv_has ls 2 [(0, .ref (ad 1)), (1, .int (nI j))] := hl
  refine lv_aload_n hx hb dX1_waysFrom_0 rfl (lv_at hl 0 rfl) ?_
  refine lv_iload_n hx hb dX1_waysFrom_1 rfl (lv_at hl 1 rfl) ?_
  refine ro_calli (va_runV (As := [.int (nI j)]) (rest := []) ⟨hx, hb, hml, hown, hts⟩ (ct_hasVertex l en ad c hg (nI j)) (cwV 1 hts gX1_waysFrom_X1_hasVertex rfl rfl rfl (by decide +kernel) ⟨Nat.le_of_ble_eq_true rfl, Nat.le_of_ble_eq_true rfl⟩) (ct_preV hE (va_recv hE.1 hP (ci := 1) (q0 := 1) rfl rfl) hP) rfl rfl hl.1 rfl (lv_room (Nat.le_of_ble_eq_true rfl)) dX1_waysFrom_2 ⟨Nat.le_of_ble_eq_true rfl, Nat.le_of_ble_eq_true rfl⟩) (fun r2 w2 => ?_)
  refine lv_if_ne (tgt := 10) hx hb dX1_waysFrom_5 (by decide) (fun b5 => ?_) (fun b5 => ?_)
  · skip
    have hn := hv_lt hg.n7 (by omega) w2 b5
    refine lv_aload_n hx hb dX1_waysFrom_10 rfl (lv_at hl 0 rfl) ?_
    refine va_get (D := en.1) (ci := 1) (v := .ref (ad 7)) (C := RX1) (T := TX1) (N := 9) hx hb hts iw_X1_waysFrom_X1 hown hE.1 hP 1 rfl rfl 1 (by decide) (hts (.fieldLink RX1 15 "CreditGame$Graph" "fixedTo" "[I") (by decide +kernel)) (fun _ h9 => h9) rfl dX1_waysFrom_11 ?_
    refine lv_iload_n hx hb dX1_waysFrom_14 rfl (lv_at hl 1 rfl) ?_
    refine xr_ild hx hb hE hP 7 (by decide) j rfl (show _ < 7 by omega) dX1_waysFrom_15 ?_
    refine lv_iconst (v := (-1)) hx hb dX1_waysFrom_16 (by decide) ?_
    refine lv_icmp_eq (tgt := 24) hx hb dX1_waysFrom_17 (by decide) (fun b17 => ?_) (fun b17 => ?_)
    · skip
      rw [hg.c7] at b17
      refine lv_aload_n hx hb dX1_waysFrom_24 rfl (lv_at hl 0 rfl) ?_
      refine va_get (D := en.1) (ci := 1) (v := .ref (ad 8)) (C := RX1) (T := TX1) (N := 9) hx hb hts iw_X1_waysFrom_X1 hown hE.1 hP 1 rfl rfl 2 (by decide) (hts (.fieldLink RX1 18 "CreditGame$Graph" "outCount" "[I") (by decide +kernel)) (fun _ h9 => h9) rfl dX1_waysFrom_25 ?_
      refine lv_iload_n hx hb dX1_waysFrom_28 rfl (lv_at hl 1 rfl) ?_
      refine xr_ild hx hb hE hP 8 (by decide) j rfl (show _ < 7 by omega) dX1_waysFrom_29 ?_
      exact W.iret (v := (c 8 j)) hx hb hr (fun t ht hW => ⟨_, rfl, (by first | (rw [gr_adj_ge hn]; rfl) | (rw [gr_adj_fix hn hf (by have := hg.e24; omega)]; rfl) | (rw [gr_adj_free hn b17]; exact (hg.rows j hj).1)), ht⟩) (fun q h => by cases h) dX1_waysFrom_30
    · skip
      rw [hg.c7] at b17
      obtain ⟨x, hxE, hf, hs⟩ := (hg.ok.fx j hn).resolve_left b17
      refine lv_iconst (v := 1) hx hb dX1_waysFrom_20 (by decide) ?_
      refine lv_goto (tgt := 30) hx hb dX1_waysFrom_21 (by decide) ?_
      exact W.iret (v := 1) hx hb hr (fun t ht hW => ⟨_, rfl, (by first | (rw [gr_adj_ge hn]; rfl) | (rw [gr_adj_fix hn hf (by have := hg.e24; omega)]; rfl) | (rw [gr_adj_free hn b17]; exact (hg.rows j hj).1)), ht⟩) (fun q h => by cases h) dX1_waysFrom_30
  · skip
    have hn := hv_nlt w2 b5
    refine lv_iconst (v := 0) hx hb dX1_waysFrom_8 (by decide) ?_
    exact W.iret (v := 0) hx hb hr (fun t ht hW => ⟨_, rfl, (by first | (rw [gr_adj_ge hn]; rfl) | (rw [gr_adj_fix hn hf (by have := hg.e24; omega)]; rfl) | (rw [gr_adj_free hn b17]; exact (hg.rows j hj).1)), ht⟩) (fun q h => by cases h) dX1_waysFrom_9
theorem iw_X1_wayFrom_X1 : ∀ w ∈ wsX10, w ∈ wsX1_wayFrom := by decide +kernel
set_option maxHeartbeats 4000000 in
set_option maxRecDepth 100000 in
/-- the k-th edge that leads on -/
theorem ct_wayFrom (l : Launch) (en : en_T) (ad : Nat → Nat) (c : Nat → Nat → Int32) {G : gr_T} (hg : gi G c) (j k : Nat) (hj : j < gr_n G) (hk : k < (gr_adj G j).length) : Met l yX1_wayFrom wsX1_wayFrom (rm_ 2 0 0) (ct_Pc en [.ref (ad 1), .int (nI j), .int (nI k)] (fun H => va_P en.1 vwCl (xw en ad c) H)) (ro_Qi (fun r => r = nI ((gr_adj G j).getD k 0))) 0 0 (fun _ => False) := by
  refine Met.ofW (cc := cX1_wayFrom) (maxL := 3) (ret := (some .int)) (by decide) rfl ?_
  intro p e s m args below meth co s₁ B hml hv
  obtain ⟨rfl, hE, hP⟩ := hv
  have hx := B.exec
  have hb := B.bytes
  have hr := B.returns
  have hts := atoms_spec (ws := wsX1_wayFrom) B.pre
  have hown : s.vm.findClass RX1 = some m.cls := findClass_of_methodNamed B.named
  have hlocks := B.notSynchronized
  have hl := lv_entry ([.ref (ad 1), .int (nI j), .int (nI k)]) (n := 3) (Nat.le_of_ble_eq_true rfl)
  rw [lg_entry_eq]
  generalize (lg_sl ([.ref (ad 1), .int (nI j), .int (nI k)]) ++ List.replicate (3 - (lg_sl ([.ref (ad 1), .int (nI j), .int (nI k)])).length) Slot.unset).toArray = ls at hl ⊢
  have hl : lv_has ls 3 [(0, .ref (ad 1)), (1, .int (nI j)), (2, .int (nI k))] := hl
  have hoc := (hg.rows j (by have := hg.n7; omega)).1
  have hko : k < (gr_out G j).length := by
    rcases hg.ok.fx j hj with hf | ⟨x, hxE, hf, hs⟩
    · rw [gr_adj_free hj hf] at hk; exact hk
    · rw [gr_adj_fix hj hf (by have := hg.e24; omega)] at hk
      have hm := List.length_pos_of_mem (gr_out_mem.mpr ⟨hxE, hs⟩)
      simp only [List.length_cons, List.length_nil] at hk
      omega
  refine lv_aload_n hx hb dX1_wayFrom_0 rfl (lv_at hl 0 rfl) ?_
  refine lv_iload_n hx hb dX1_wayFrom_1 rfl (lv_at hl 1 rfl) ?_
  refine ro_calli (va_runV (As := [.int (nI j)]) (rest := []) ⟨hx, hb, hml, hown, hts⟩ (ct_hasVertex l en ad c hg (nI j)) (cwV 1 hts gX1_wayFrom_X1_hasVertex rfl rfl rfl (by decide +kernel) ⟨Nat.le_of_ble_eq_true rfl, Nat.le_of_ble_eq_true rfl⟩) (ct_preV hE (va_recv hE.1 hP (ci := 1) (q0 := 1) rfl rfl) hP) rfl rfl hl.1 rfl (lv_room (Nat.le_of_ble_eq_true rfl)) dX1_wayFrom_2 ⟨Nat.le_of_ble_eq_true rfl, Nat.le_of_ble_eq_true rfl⟩) (fun r2 w2 => ?_)
  obtain rfl : r2 = 1 := hv_one hj w2
  refine lv_if_eq (tgt := 28) hx hb dX1_wayFrom_5 (by decide) (fun b5 => absurd b5 (by decide)) (fun b5 => ?_)
  refine lv_iload_n hx hb dX1_wayFrom_8 rfl (lv_at hl 2 rfl) ?_
  refine lv_if_lt (tgt := 28) hx hb dX1_wayFrom_9 (by decide) (fun b9 => absurd b9 (nI_pos (by have := gr_adj_len hg.ok j; omega))) (fun b9 => ?_)
  refine lv_iload_n hx hb dX1_wayFrom_12 rfl (lv_at hl 2 rfl) ?_
  refine lv_aload_n hx hb dX1_wayFrom_13 rfl (lv_at hl 0 rfl) ?_
  refine va_get (D := en.1) (ci := 1) (v := .ref (ad 8)) (C := RX1) (T := TX1) (N := 9) hx hb hts iw_X1_wayFrom_X1 hown hE.1 hP 1 rfl rfl 2 (by decide) (hts (.fieldLink RX1 18 "CreditGame$Graph" "outCount" "[I") (by decide +kernel)) (fun _ h9 => h9) rfl dX1_wayFrom_14 ?_
  refine lv_iload_n hx hb dX1_wayFrom_17 rfl (lv_at hl 1 rfl) ?_
  refine xr_ild hx hb hE hP 8 (by decide) j rfl (show _ < 7 by have := hg.n7; omega) dX1_wayFrom_18 ?_
  refine lv_icmp_ge (tgt := 28) hx hb dX1_wayFrom_19 (by decide) (fun b19 => absurd b19 (by rw [hoc]; exact nI_ge hko (by have := gr_out_len G j; have := hg.e24; omega))) (fun b19 => ?_)
  refine lv_iload_n hx hb dX1_wayFrom_22 rfl (lv_at hl 2 rfl) ?_
  refine lv_bipush (v := (nI 24)) hx hb dX1_wayFrom_23 (by decide) ?_
  refine lv_icmp_lt (tgt := 30) hx hb dX1_wayFrom_25 (by decide) (fun b25 => ?_) (fun b25 => absurd b25 (fun h => h (nI_lt (show k < 24 by have := gr_adj_len hg.ok j; omega) (by omega))))
  refine lv_aload_n hx hb dX1_wayFrom_30 rfl (lv_at hl 0 rfl) ?_
  refine va_get (D := en.1) (ci := 1) (v := .ref (ad 7)) (C := RX1) (T := TX1) (N := 9) hx hb hts iw_X1_wayFrom_X1 hown hE.1 hP 1 rfl rfl 1 (by decide) (hts (.fieldLink RX1 15 "CreditGame$Graph" "fixedTo" "[I") (by decide +kernel)) (fun _ h9 => h9) rfl dX1_wayFrom_31 ?_
  refine lv_iload_n hx hb dX1_wayFrom_34 rfl (lv_at hl 1 rfl) ?_
  refine xr_ild hx hb hE hP 7 (by decide) j rfl (show _ < 7 by have := hg.n7; omega) dX1_wayFrom_35 ?_
  refine lv_iconst (v := (-1)) hx hb dX1_wayFrom_36 (by decide) ?_
  refine lv_icmp_eq (tgt := 49) hx hb dX1_wayFrom_37 (by decide) (fun b37 => ?_) (fun b37 => ?_)
  · skip
    rw [hg.c7] at b37
    rw [gr_adj_free hj b37] at hk ⊢
    refine lv_aload_n hx hb dX1_wayFrom_49 rfl (lv_at hl 0 rfl) ?_
    refine va_get (D := en.1) (ci := 1) (v := .ref (ad 21)) (C := RX1) (T := TX1) (N := 9) hx hb hts iw_X1_wayFrom_X1 hown hE.1 hP 1 rfl rfl 3 (by decide) (hts (.fieldLink RX1 23 "CreditGame$Graph" "out" "[[I") (by decide +kernel)) (fun _ h9 => h9) rfl dX1_wayFrom_50 ?_
    refine lv_iload_n hx hb dX1_wayFrom_53 rfl (lv_at hl 1 rfl) ?_
    refine xr_ald hx hb hE hP j rfl (by have := hg.n7; omega) dX1_wayFrom_54 ?_
    refine lv_iload_n hx hb dX1_wayFrom_55 rfl (lv_at hl 2 rfl) ?_
    refine xr_ild hx hb hE hP (22 + j) (xw_row0 (by have := hg.n7; omega)) k rfl (xw_rowl (by have := hg.n7; omega) (by have := gr_out_len G j; have := hg.e24; omega)) dX1_wayFrom_56 ?_
    exact W.iret (v := (c (22 + j) k)) hx hb hr (fun t ht hW => ⟨_, rfl, (by first | exact (hg.rows j (by have := hg.n7; omega)).2 k hk | (rw [hg.c7]; exact hf)), ht⟩) (fun q h => by cases h) dX1_wayFrom_57
  · skip
    rw [hg.c7] at b37
    obtain ⟨x, hxE, hf, hs⟩ := (hg.ok.fx j hj).resolve_left b37
    rw [gr_adj_fix hj hf (by have := hg.e24; omega)] at hk ⊢
    obtain rfl : k = 0 := by simpa using hk
    refine lv_aload_n hx hb dX1_wayFrom_40 rfl (lv_at hl 0 rfl) ?_
    refine va_get (D := en.1) (ci := 1) (v := .ref (ad 7)) (C := RX1) (T := TX1) (N := 9) hx hb hts iw_X1_wayFrom_X1 hown hE.1 hP 1 rfl rfl 1 (by decide) (hts (.fieldLink RX1 15 "CreditGame$Graph" "fixedTo" "[I") (by decide +kernel)) (fun _ h9 => h9) rfl dX1_wayFrom_41 ?_
    refine lv_iload_n hx hb dX1_wayFrom_44 rfl (lv_at hl 1 rfl) ?_
    refine xr_ild hx hb hE hP 7 (by decide) j rfl (show _ < 7 by have := hg.n7; omega) dX1_wayFrom_45 ?_
    refine lv_goto (tgt := 57) hx hb dX1_wayFrom_46 (by decide) ?_
    exact W.iret (v := (c 7 j)) hx hb hr (fun t ht hW => ⟨_, rfl, (by first | exact (hg.rows j (by have := hg.n7; omega)).2 k hk | (rw [hg.c7]; exact hf)), ht⟩) (fun q h => by cases h) dX1_wayFrom_57
theorem iw_X1_isComplete_X1 : ∀ w ∈ wsX10, w ∈ wsX1_isComplete := by decide +kernel
set_option maxHeartbeats 4000000 in
set_option maxRecDepth 100000 in
/-- does an edge lead on from each vertex -/
theorem ct_isComplete (l : Launch) (en : en_T) (ad : Nat → Nat) (c : Nat → Nat → Int32) {G : gr_T} (hg : gi G c) : Met l yX1_isComplete wsX1_isComplete (rm_ 3 0 0) (ct_Pc en [.ref (ad 1)] (fun H => va_P en.1 vwCl (xw en ad c) H)) (ro_Qi (fun r => (r = 1 ∧ 0 < gr_n G ∧ ∀ v, v < gr_n G → gr_adj G v ≠ []) ∨ (r = 0 ∧ ¬ (0 < gr_n G ∧ ∀ v, v < gr_n G → gr_adj G v ≠ [])))) 0 0 (fun _ => False) := by
  refine Met.ofW (cc := cX1_isComplete) (maxL := 2) (ret := (some .boolean)) (by decide) rfl ?_
  intro p e s m args below meth co s₁ B hml hv
  obtain ⟨rfl, hE, hP⟩ := hv
  have hx := B.exec
  have hb := B.bytes
  have hr := B.returns
  have hts := atoms_spec (ws := wsX1_isComplete) B.pre
  have hown : s.vm.findClass RX1 = some m.cls := findClass_of_methodNamed B.named
  have hlocks := B.notSynchronized
  have hl := lv_entry ([.ref (ad 1)]) (n := 2) (Nat.le_of_ble_eq_true rfl)
  rw [lg_entry_eq]
  generalize (lg_sl ([.ref (ad 1)]) ++ List.replicate (2 - (lg_sl ([.ref (ad 1)])).length) Slot.unset).toArray = ls at hl ⊢
  have hl : lv_has ls 2 [(0, .ref (ad 1))] := hl
  refine lv_iconst (v := (nI 0)) hx hb dX1_isComplete_0 (by decide) ?_
  refine lv_istore_n (lv' := [(1, .int (nI 0)), (0, .ref (ad 1))]) hx hb dX1_isComplete_1 rfl hl (by decide) rfl (fun ls hl => ?_)
  have key2 : ∀ (n_ : Nat) (i : Nat) (ls : Array Slot), i ≤ gr_n G → gr_n G + 1 ≤ i + n_ → (∀ v, v < i → gr_adj G v ≠ []) → lv_has ls 2 [(0, .ref (ad 1)), (1, .int (nI i))] → W p l e (headSpec wsX1_isComplete (rm_ 3 0 0)).room s m ([.ref (ad 1)] : List Value).toArray below meth co s.heap [] 0 0 (MQ below (ro_Qi (fun r => (r = 1 ∧ 0 < gr_n G ∧ ∀ v, v < gr_n G → gr_adj G v ≠ []) ∨ (r = 0 ∧ ¬ (0 < gr_n G ∧ ∀ v, v < gr_n G → gr_adj G v ≠ [])))) ([.ref (ad 1)] : List Value).toArray s 0 0 (fun _ => False)) (F0 m 2 ls []) := by
    intro n_
    induction n_ with
    | zero =>
      intro i ls hi hin hd hl
      exact absurd hin (by omega)
    | succ n_ ih2 =>
      intro i ls hi hin hd hl
      refine lv_iload_n hx hb dX1_isComplete_2 rfl (lv_at hl 1 rfl) ?_
      refine lv_aload_n hx hb dX1_isComplete_3 rfl (lv_at hl 0 rfl) ?_
      refine va_get (D := en.1) (ci := 1) (v := .int (c 1 0)) (C := RX1) (T := TX1) (N := 9) hx hb hts iw_X1_isComplete_X1 hown hE.1 hP 1 rfl rfl 7 (by decide) (hts (.fieldLink RX1 35 "CreditGame$Graph" "vertexCount" "I") (by decide +kernel)) (fun _ h9 => h9) rfl dX1_isComplete_4 ?_
      refine lv_icmp_ge (tgt := 26) hx hb dX1_isComplete_7 (by decide) (fun b7 => ?_) (fun b7 => ?_)
      · skip
        have hin2 : i = gr_n G := by
          rcases Nat.lt_or_ge i (gr_n G) with q | q
          · exact absurd b7 (by rw [hg.vc]; exact nI_ge q (by have := hg.n7; omega))
          · omega
        subst hin2
        refine lv_aload_n hx hb dX1_isComplete_26 rfl (lv_at hl 0 rfl) ?_
        refine va_get (D := en.1) (ci := 1) (v := .int (c 1 0)) (C := RX1) (T := TX1) (N := 9) hx hb hts iw_X1_isComplete_X1 hown hE.1 hP 1 rfl rfl 7 (by decide) (hts (.fieldLink RX1 35 "CreditGame$Graph" "vertexCount" "I") (by decide +kernel)) (fun _ h9 => h9) rfl dX1_isComplete_27 ?_
        refine lv_if_le (tgt := 37) hx hb dX1_isComplete_30 (by decide) (fun b30 => ?_) (fun b30 => ?_)
        · skip
          refine lv_iconst (v := 0) hx hb dX1_isComplete_37 (by decide) ?_
          exact W.zret (v := 0) (ty := .boolean) hx hb hr rfl (fun t ht hW => ⟨_, rfl, (by first | exact Or.inr ⟨rfl, fun h => h.2 i hlt he⟩ | exact Or.inl ⟨rfl, Nat.pos_of_ne_zero (fun h => b30 (by rw [hg.vc, h]; decide)), hd⟩ | exact Or.inr ⟨rfl, fun h => nI_nle h.1 (by have := hg.n7; omega) (by rw [← hg.vc]; exact b30)⟩), ht⟩) (fun q h => by cases h) dX1_isComplete_38
        · skip
          refine lv_iconst (v := 1) hx hb dX1_isComplete_33 (by decide) ?_
          refine lv_goto (tgt := 38) hx hb dX1_isComplete_34 (by decide) ?_
          exact W.zret (v := 1) (ty := .boolean) hx hb hr rfl (fun t ht hW => ⟨_, rfl, (by first | exact Or.inr ⟨rfl, fun h => h.2 i hlt he⟩ | exact Or.inl ⟨rfl, Nat.pos_of_ne_zero (fun h => b30 (by rw [hg.vc, h]; decide)), hd⟩ | exact Or.inr ⟨rfl, fun h => nI_nle h.1 (by have := hg.n7; omega) (by rw [← hg.vc]; exact b30)⟩), ht⟩) (fun q h => by cases h) dX1_isComplete_38
      · skip
        have hlt : i < gr_n G := by
          rcases Nat.lt_or_ge i (gr_n G) with q | q
          · exact q
          · exact absurd (by rw [hg.vc]; exact nI_le q (by have := hg.n7; omega)) b7
        refine lv_aload_n hx hb dX1_isComplete_10 rfl (lv_at hl 0 rfl) ?_
        refine lv_iload_n hx hb dX1_isComplete_11 rfl (lv_at hl 1 rfl) ?_
        refine ro_calli (va_runV (As := [.int (nI i)]) (rest := []) ⟨hx, hb, hml, hown, hts⟩ (ct_waysFrom l en ad c hg i (by have := hg.n7; omega)) (cwV 1 hts gX1_isComplete_X1_waysFrom rfl rfl rfl (by decide +kernel) ⟨Nat.le_of_ble_eq_true rfl, Nat.le_of_ble_eq_true rfl⟩) (ct_preV hE (va_recv hE.1 hP (ci := 1) (q0 := 1) rfl rfl) hP) rfl rfl hl.1 rfl (lv_room (Nat.le_of_ble_eq_true rfl)) dX1_isComplete_12 ⟨Nat.le_of_ble_eq_true rfl, Nat.le_of_ble_eq_true rfl⟩) (fun r12 w12 => ?_)
        obtain rfl : r12 = nI (gr_adj G i).length := w12
        refine lv_if_ne (tgt := 20) hx hb dX1_isComplete_15 (by decide) (fun b15 => ?_) (fun b15 => ?_)
        · skip
          have hne : gr_adj G i ≠ [] := fun h => b15 (by rw [h]; rfl)
          refine lv_iinc (v := (nI (i + 1))) (lv' := [(1, .int (nI (i + 1))), (0, .ref (ad 1))]) hx hb dX1_isComplete_20 hl (k := 1) rfl (nI_1 _) (by decide) rfl (fun ls hl => ?_)
          refine lv_goto (tgt := 2) hx hb dX1_isComplete_23 (by decide) ?_
          exact ih2 (i + 1) _ (by omega) (by omega) (fun v h => by rcases Nat.lt_succ_iff_lt_or_eq.mp h with h | h; exact hd v h; rw [h]; exact hne) (lv_sub hl [1, 0] rfl)
        · skip
          have he : gr_adj G i = [] := by
            rcases hh : gr_adj G i with _ | ⟨a, t⟩
            · rfl
            · rw [hh] at b15; exact absurd b15 (nI_ne0 (by simp) (by have := gr_adj_len hg.ok i; rw [hh] at this; omega))
          refine lv_iconst (v := 0) hx hb dX1_isComplete_18 (by decide) ?_
          exact W.zret (v := 0) (ty := .boolean) hx hb hr rfl (fun t ht hW => ⟨_, rfl, (by first | exact Or.inr ⟨rfl, fun h => h.2 i hlt he⟩ | exact Or.inl ⟨rfl, Nat.pos_of_ne_zero (fun h => b30 (by rw [hg.vc, h]; decide)), hd⟩ | exact Or.inr ⟨rfl, fun h => nI_nle h.1 (by have := hg.n7; omega) (by rw [← hg.vc]; exact b30)⟩), ht⟩) (fun q h => by cases h) dX1_isComplete_19
  exact key2 (gr_n G + 1) 0 _ (Nat.zero_le _) (by omega) (fun v h => absurd h (Nat.not_lt_zero v)) (lv_sub hl [1, 0] rfl)
end
section
/-! ===== CreditGame$Path; Arrays.fill, Integer.compare ===== -/
theorem up_self (c : Nat → Nat → Int32) (k : Nat) : va_up c k (c k) = c := funext fun j => by
  unfold va_up
  split
  · rename_i h; rw [h]
  · rfl
theorem up_at {α : Type} (f : Nat → α) (k : Nat) (v : α) : va_up f k v k = v := if_pos rfl
theorem up_ne {α : Type} {f : Nat → α} {j k : Nat} {v : α} (h : j ≠ k) : va_up f k v j = f j := if_neg h
theorem ud_at (f : Nat → Int32) (k : Nat) (x : Int32) : upd f k x k = x := pk_us
theorem ud_ne {f : Nat → Int32} {j k : Nat} {x : Int32} (h : j ≠ k) : upd f k x j = f j := pk_un h
section XL
variable {p : Program} {l : Launch} {e : Env} {R : Room} {s : State} {m : MethodId} {args : Array Value} {below : List Frame} {meth : Method} {co : Code} {H : Heap} {locs : List Loc} {cells slots : Nat} {Q : State → Prop}
variable {cc : ByteArray} {pc : Nat} {ls : Array Slot} {rest : List Value} {en : en_T} {ad : Nat → Nat} {c : Nat → Nat → Int32}
theorem xr_len (hexec : p.tables.exec = Jvm.exec) (hb : co.code = cc) (hE : en_ok en s) (hP : va_P en.1 vwCl (xw en ad c) H) (k : Nat) (hk : 0 < xw_l k) (hdg : decode cc pc = .ok (.arraylength, 1))
    (kk : W p l e R s m args below meth co H locs cells slots Q (F0 m (pc + 1) ls (.int (nI (xw_l k)) :: rest))) : W p l e R s m args below meth co H locs cells slots Q (F0 m pc ls (.ref (ad k) :: rest)) :=
  va_alen hexec hb hE.1 hP k 0 (xw_at k hk) rfl rfl hdg kk
end XL
theorem xw_l24 (k : Nat) : xw_l k ≤ 24 := by unfold xw_l; split <;> omega
set_option maxHeartbeats 4000000 in
set_option maxRecDepth 100000 in
/-- all places are x -/
theorem ct_fill (l : Launch) (en : en_T) (ad : Nat → Nat) (c : Nat → Nat → Int32) (hI : xw_I ad) (sz : Nat) (K : Nat) (hK : 0 < xw_l K) (x : Int32) : Met l yJ7_fill_53178 wsJ7_fill_53178 (rm_ 1 0 0) (ct_Pc en [.ref (ad K), .int x] (fun H => H.size = sz ∧ va_P en.1 vwCl (xw en ad c) H)) (va_Qv (fun c' => ∃ f : Nat → Int32, c' = va_up c K f ∧ ∀ j, j < xw_l K → f j = x) (fun c' t => va_P en.1 vwCl (xw en ad c') t.heap) (xw_A ad sz)) 0 0 (xw_A ad sz) := by
  refine Met.ofW (cc := cJ7_fill_53178) (maxL := 4) (ret := none) (by decide) rfl ?_
  intro p e s m args below meth co s₁ B hml hv
  obtain ⟨rfl, hE, hsz, hP⟩ := hv
  subst hsz
  have hx := B.exec
  have hb := B.bytes
  have hr := B.returns
  have hts := atoms_spec (ws := wsJ7_fill_53178) B.pre
  have hown : s.vm.findClass RJ7 = some m.cls := findClass_of_methodNamed B.named
  have hlocks := B.notSynchronized
  have hS : va_S (xw_A ad s.heap.size) s.heap s.heap [] := va_S.rf
  have hl := lv_entry ([.ref (ad K), .int x]) (n := 4) (Nat.le_of_ble_eq_true rfl)
  rw [lg_entry_eq]
  generalize (lg_sl ([.ref (ad K), .int x]) ++ List.replicate (4 - (lg_sl ([.ref (ad K), .int x])).length) Slot.unset).toArray = ls at hl ⊢
  have hl : lv_has ls 4 [(0, .ref (ad K)), (1, .int x)] := hl
  refine lv_iconst (v := (nI 0)) hx hb dJ7_fill_53178_0 (by decide) ?_
  refine lv_istore_n (lv' := [(2, .int (nI 0)), (0, .ref (ad K)), (1, .int x)]) hx hb dJ7_fill_53178_1 rfl hl (by decide) rfl (fun ls hl => ?_)
  refine lv_aload_n hx hb dJ7_fill_53178_2 rfl (lv_at hl 1 rfl) ?_
  refine xr_len hx hb hE hP K hK dJ7_fill_53178_3 ?_
  refine lv_istore_n (lv' := [(3, .int (nI (xw_l K))), (2, .int (nI 0)), (0, .ref (ad K)), (1, .int x)]) hx hb dJ7_fill_53178_4 rfl hl (by decide) rfl (fun ls hl => ?_)
  have key5 : ∀ (n_ : Nat) (i : Nat) (f : Nat → Int32) (c_ : Nat → Nat → Int32) (H : Heap) (locs : List Loc) (ls : Array Slot), i ≤ xw_l K → xw_l K + 1 ≤ i + n_ → c_ = va_up c K f → (∀ j, j < i → f j = x) → va_P en.1 vwCl (xw en ad c_) H → va_S (xw_A ad s.heap.size) s.heap H locs → lv_has ls 4 [(0, .ref (ad K)), (1, .int x), (2, .int (nI i)), (3, .int (nI (xw_l K)))] → W p l e (headSpec wsJ7_fill_53178 (rm_ 1 0 0)).room s m ([.ref (ad K), .int x] : List Value).toArray below meth co H locs 0 0 (MQ below (va_Qv (fun c' => ∃ f : Nat → Int32, c' = va_up c K f ∧ ∀ j, j < xw_l K → f j = x) (fun c' t => va_P en.1 vwCl (xw en ad c') t.heap) (xw_A ad s.heap.size)) ([.ref (ad K), .int x] : List Value).toArray s 0 0 (xw_A ad s.heap.size)) (F0 m 5 ls []) := by
    intro n_
    induction n_ with
    | zero =>
      intro i f c_ H locs ls hi hin hc hf hP hS hl
      exact absurd hin (by omega)
    | succ n_ ih5 =>
      intro i f c_ H locs ls hi hin hc hf hP hS hl
      refine lv_iload_n hx hb dJ7_fill_53178_5 rfl (lv_at hl 2 rfl) ?_
      refine lv_iload_n hx hb dJ7_fill_53178_6 rfl (lv_at hl 3 rfl) ?_
      refine lv_icmp_ge (tgt := 20) hx hb dJ7_fill_53178_7 (by decide) (fun b7 => ?_) (fun b7 => ?_)
      · skip
        have hin2 : i = xw_l K := by
          rcases Nat.lt_or_ge i (xw_l K) with q | q
          · exact absurd b7 (nI_ge q (by have := xw_l24 K; omega))
          · omega
        subst hin2
        exact W.vret hx hb hr (fun t ht hW => ⟨⟨c_, rfl, ⟨f, hc, hf⟩, by show va_P _ _ _ t.heap; rw [ht]; exact hP⟩, hS.F ht⟩) hS.2.2 dJ7_fill_53178_20
      · skip
        have hlt : i < xw_l K := by
          rcases Nat.lt_or_ge i (xw_l K) with q | q
          · exact q
          · exact absurd (nI_le q (by have := xw_l24 K; omega)) b7
        refine lv_aload_n hx hb dJ7_fill_53178_10 rfl (lv_at hl 0 rfl) ?_
        refine lv_iload_n hx hb dJ7_fill_53178_11 rfl (lv_at hl 2 rfl) ?_
        refine lv_iload_n hx hb dJ7_fill_53178_12 rfl (lv_at hl 1 rfl) ?_
        refine xr_ist hx hb hE hP hI hS K hK i rfl hlt dJ7_fill_53178_13 (fun H locs hP hS => ?_)
        obtain ⟨c13, ec13⟩ : ∃ z : Nat → Nat → Int32, z = va_up c_ K (upd (c_ K) i x) := ⟨_, rfl⟩
        rw [← ec13] at hP
        refine lv_iinc (v := (nI (i + 1))) (lv' := [(2, .int (nI (i + 1))), (0, .ref (ad K)), (1, .int x), (3, .int (nI (xw_l K)))]) hx hb dJ7_fill_53178_14 hl (k := 2) rfl (nI_1 _) (by decide) rfl (fun ls hl => ?_)
        refine lv_goto (tgt := 5) hx hb dJ7_fill_53178_17 (by decide) ?_
        exact ih5 (i + 1) (upd (c_ K) i x) c13 _ _ _ (by omega) (by omega) (by rw [ec13, hc, bx_uu]) (fun j h => by by_cases hj : j = i; rw [hj, ud_at]; rw [ud_ne hj, hc, up_at]; exact hf j (by omega)) hP hS (lv_sub hl [1, 2, 0, 3] rfl)
  exact key5 (xw_l K + 1) 0 (c K) c _ _ _ (Nat.zero_le _) (by omega) (up_self c K).symm (fun j h => absurd h (Nat.not_lt_zero j)) hP hS (lv_sub hl [2, 3, 1, 0] rfl)
set_option maxHeartbeats 4000000 in
set_option maxRecDepth 100000 in
/--  -/
theorem ct_compare (l : Launch) (en : en_T) (ad : Nat → Nat) (c : Nat → Nat → Int32) (x y : Int32) : Met l yJ6_compare_7cf53 wsJ6_compare_7cf53 (rm_ 1 0 0) (ct_Pc en [.int x, .int y] (fun H => True)) (ro_Qi (fun r => r = if x < y then -1 else if x = y then 0 else 1)) 0 0 (fun _ => False) := by
  refine Met.ofW (cc := cJ6_compare_7cf53) (maxL := 2) (ret := (some .int)) (by decide) rfl ?_
  intro p e s m args below meth co s₁ B hml hv
  obtain ⟨rfl, hE, hP⟩ := hv
  have hx := B.exec
  have hb := B.bytes
  have hr := B.returns
  have hts := atoms_spec (ws := wsJ6_compare_7cf53) B.pre
  have hown : s.vm.findClass RJ6 = some m.cls := findClass_of_methodNamed B.named
  have hlocks := B.notSynchronized
  have hl := lv_entry ([.int x, .int y]) (n := 2) (Nat.le_of_ble_eq_true rfl)
  rw [lg_entry_eq]
  generalize (lg_sl ([.int x, .int y]) ++ List.replicate (2 - (lg_sl ([.int x, .int y])).length) Slot.unset).toArray = ls at hl ⊢
  have hl : lv_has ls 2 [(0, .int x), (1, .int y)] := hl
  refine lv_iload_n hx hb dJ6_compare_7cf53_0 rfl (lv_at hl 0 rfl) ?_
  refine lv_iload_n hx hb dJ6_compare_7cf53_1 rfl (lv_at hl 1 rfl) ?_
  refine lv_icmp_ge (tgt := 9) hx hb dJ6_compare_7cf53_2 (by decide) (fun b2 => ?_) (fun b2 => ?_)
  · skip
    refine lv_iload_n hx hb dJ6_compare_7cf53_9 rfl (lv_at hl 0 rfl) ?_
    refine lv_iload_n hx hb dJ6_compare_7cf53_10 rfl (lv_at hl 1 rfl) ?_
    refine lv_icmp_ne (tgt := 18) hx hb dJ6_compare_7cf53_11 (by decide) (fun b11 => ?_) (fun b11 => ?_)
    · skip
      refine lv_iconst (v := 1) hx hb dJ6_compare_7cf53_18 (by decide) ?_
      exact W.iret (v := 1) hx hb hr (fun t ht hW => ⟨_, rfl, (by first | (rw [if_pos (Int32.not_le.mp b2)]) | (rw [if_neg (Int32.not_lt.mpr b2), if_pos b11]) | (rw [if_neg (Int32.not_lt.mpr b2), if_neg b11])), ht⟩) (fun q h => by cases h) dJ6_compare_7cf53_19
    · skip
      refine lv_iconst (v := 0) hx hb dJ6_compare_7cf53_14 (by decide) ?_
      refine lv_goto (tgt := 19) hx hb dJ6_compare_7cf53_15 (by decide) ?_
      exact W.iret (v := 0) hx hb hr (fun t ht hW => ⟨_, rfl, (by first | (rw [if_pos (Int32.not_le.mp b2)]) | (rw [if_neg (Int32.not_lt.mpr b2), if_pos b11]) | (rw [if_neg (Int32.not_lt.mpr b2), if_neg b11])), ht⟩) (fun q h => by cases h) dJ6_compare_7cf53_19
  · skip
    refine lv_iconst (v := (-1)) hx hb dJ6_compare_7cf53_5 (by decide) ?_
    refine lv_goto (tgt := 19) hx hb dJ6_compare_7cf53_6 (by decide) ?_
    exact W.iret (v := (-1)) hx hb hr (fun t ht hW => ⟨_, rfl, (by first | (rw [if_pos (Int32.not_le.mp b2)]) | (rw [if_neg (Int32.not_lt.mpr b2), if_pos b11]) | (rw [if_neg (Int32.not_lt.mpr b2), if_neg b11])), ht⟩) (fun q h => by cases h) dJ6_compare_7cf53_19
set_option maxHeartbeats 4000000 in
set_option maxRecDepth 100000 in
/--  -/
theorem ct_isPlace_w (l : Launch) (en : en_T) (ad : Nat → Nat) (c : Nat → Nat → Int32) (j : Nat) (hj : j < 7) : Met l yX2_isPlace wsX2_isPlace (rm_ 1 0 0) (ct_Pc en [.ref (ad 4), .int (nI j)] (fun H => va_P en.1 vwCl (xw en ad c) H)) (ro_Qi (fun r => r = 1)) 0 0 (fun _ => False) := by
  refine Met.ofW (cc := cX2_isPlace) (maxL := 2) (ret := (some .boolean)) (by decide) rfl ?_
  intro p e s m args below meth co s₁ B hml hv
  obtain ⟨rfl, hE, hP⟩ := hv
  have hx := B.exec
  have hb := B.bytes
  have hr := B.returns
  have hts := atoms_spec (ws := wsX2_isPlace) B.pre
  have hown : s.vm.findClass RX2 = some m.cls := findClass_of_methodNamed B.named
  have hlocks := B.notSynchronized
  have hl := lv_entry ([.ref (ad 4), .int (nI j)]) (n := 2) (Nat.le_of_ble_eq_true rfl)
  rw [lg_entry_eq]
  generalize (lg_sl ([.ref (ad 4), .int (nI j)]) ++ List.replicate (2 - (lg_sl ([.ref (ad 4), .int (nI j)])).length) Slot.unset).toArray = ls at hl ⊢
  have hl : lv_has ls 2 [(0, .ref (ad 4)), (1, .int (nI j))] := hl
  refine lv_iload_n hx hb dX2_isPlace_0 rfl (lv_at hl 1 rfl) ?_
  refine lv_if_lt (tgt := 14) hx hb dX2_isPlace_1 (by decide) (fun b1 => absurd b1 (nI_pos (by omega))) (fun b1 => ?_)
  refine lv_iload_n hx hb dX2_isPlace_4 rfl (lv_at hl 1 rfl) ?_
  refine lv_bipush (v := (nI 7)) hx hb dX2_isPlace_5 (by decide) ?_
  refine lv_icmp_ge (tgt := 14) hx hb dX2_isPlace_7 (by decide) (fun b7 => absurd b7 (nI_ge (show j < 7 by omega) (by omega))) (fun b7 => ?_)
  refine lv_iconst (v := 1) hx hb dX2_isPlace_10 (by decide) ?_
  refine lv_goto (tgt := 15) hx hb dX2_isPlace_11 (by decide) ?_
  exact W.zret (v := 1) (ty := .boolean) hx hb hr rfl (fun t ht hW => ⟨_, rfl, rfl, ht⟩) (fun q h => by cases h) dX2_isPlace_15
theorem iw_X2_has_X2 : ∀ w ∈ wsX20, w ∈ wsX2_has := by decide +kernel
set_option maxHeartbeats 4000000 in
set_option maxRecDepth 100000 in
/--  -/
theorem ct_has_w (l : Launch) (en : en_T) (ad : Nat → Nat) (c : Nat → Nat → Int32) (j : Nat) (hj : j < 7) : Met l yX2_has wsX2_has (rm_ 2 0 0) (ct_Pc en [.ref (ad 4), .int (nI j)] (fun H => va_P en.1 vwCl (xw en ad c) H)) (ro_Qi (fun r => r = if c 16 j = -1 then 0 else 1)) 0 0 (fun _ => False) := by
  refine Met.ofW (cc := cX2_has) (maxL := 2) (ret := (some .boolean)) (by decide) rfl ?_
  intro p e s m args below meth co s₁ B hml hv
  obtain ⟨rfl, hE, hP⟩ := hv
  have hx := B.exec
  have hb := B.bytes
  have hr := B.returns
  have hts := atoms_spec (ws := wsX2_has) B.pre
  have hown : s.vm.findClass RX2 = some m.cls := findClass_of_methodNamed B.named
  have hlocks := B.notSynchronized
  have hl := lv_entry ([.ref (ad 4), .int (nI j)]) (n := 2) (Nat.le_of_ble_eq_true rfl)
  rw [lg_entry_eq]
  generalize (lg_sl ([.ref (ad 4), .int (nI j)]) ++ List.replicate (2 - (lg_sl ([.ref (ad 4), .int (nI j)])).length) Slot.unset).toArray = ls at hl ⊢
  have hl : lv_has ls 2 [(0, .ref (ad 4)), (1, .int (nI j))] := hl
  refine lv_aload_n hx hb dX2_has_0 rfl (lv_at hl 0 rfl) ?_
  refine lv_iload_n hx hb dX2_has_1 rfl (lv_at hl 1 rfl) ?_
  refine ro_calli (va_runV (As := [.int (nI j)]) (rest := []) ⟨hx, hb, hml, hown, hts⟩ (ct_isPlace_w l en ad c j hj) (cwV 1 hts gX2_has_X2_isPlace rfl rfl rfl (by decide +kernel) ⟨Nat.le_of_ble_eq_true rfl, Nat.le_of_ble_eq_true rfl⟩) (ct_preV hE (va_recv hE.1 hP (ci := 2) (q0 := 4) rfl rfl) hP) rfl rfl hl.1 rfl (lv_room (Nat.le_of_ble_eq_true rfl)) dX2_has_2 ⟨Nat.le_of_ble_eq_true rfl, Nat.le_of_ble_eq_true rfl⟩) (fun r2 w2 => ?_)
  obtain rfl : r2 = 1 := w2
  refine lv_if_eq (tgt := 22) hx hb dX2_has_5 (by decide) (fun b5 => absurd b5 (by decide)) (fun b5 => ?_)
  refine lv_aload_n hx hb dX2_has_8 rfl (lv_at hl 0 rfl) ?_
  refine va_get (D := en.1) (ci := 2) (v := .ref (ad 16)) (C := RX2) (T := TX2) (N := 2) hx hb hts iw_X2_has_X2 hown hE.1 hP 4 rfl rfl 0 (by decide) (hts (.fieldLink RX2 9 "CreditGame$Path" "steps" "[I") (by decide +kernel)) (fun _ h9 => h9) rfl dX2_has_9 ?_
  refine lv_iload_n hx hb dX2_has_12 rfl (lv_at hl 1 rfl) ?_
  refine xr_ild hx hb hE hP 16 (by decide) j rfl (show _ < 7 by omega) dX2_has_13 ?_
  refine lv_iconst (v := (-1)) hx hb dX2_has_14 (by decide) ?_
  refine lv_icmp_eq (tgt := 22) hx hb dX2_has_15 (by decide) (fun b15 => ?_) (fun b15 => ?_)
  · skip
    refine lv_iconst (v := 0) hx hb dX2_has_22 (by decide) ?_
    exact W.zret (v := 0) (ty := .boolean) hx hb hr rfl (fun t ht hW => ⟨_, rfl, (by first | exact (if_pos b15).symm | exact (if_neg b15).symm), ht⟩) (fun q h => by cases h) dX2_has_23
  · skip
    refine lv_iconst (v := 1) hx hb dX2_has_18 (by decide) ?_
    refine lv_goto (tgt := 23) hx hb dX2_has_19 (by decide) ?_
    exact W.zret (v := 1) (ty := .boolean) hx hb hr rfl (fun t ht hW => ⟨_, rfl, (by first | exact (if_pos b15).symm | exact (if_neg b15).symm), ht⟩) (fun q h => by cases h) dX2_has_23
theorem iw_X2_stepsTo_X2 : ∀ w ∈ wsX20, w ∈ wsX2_stepsTo := by decide +kernel
set_option maxHeartbeats 4000000 in
set_option maxRecDepth 100000 in
/--  -/
theorem ct_stepsTo_w (l : Launch) (en : en_T) (ad : Nat → Nat) (c : Nat → Nat → Int32) (j : Nat) (hj : j < 7) : Met l yX2_stepsTo wsX2_stepsTo (rm_ 2 0 0) (ct_Pc en [.ref (ad 4), .int (nI j)] (fun H => va_P en.1 vwCl (xw en ad c) H)) (ro_Qi (fun r => r = c 16 j)) 0 0 (fun _ => False) := by
  refine Met.ofW (cc := cX2_stepsTo) (maxL := 2) (ret := (some .int)) (by decide) rfl ?_
  intro p e s m args below meth co s₁ B hml hv
  obtain ⟨rfl, hE, hP⟩ := hv
  have hx := B.exec
  have hb := B.bytes
  have hr := B.returns
  have hts := atoms_spec (ws := wsX2_stepsTo) B.pre
  have hown : s.vm.findClass RX2 = some m.cls := findClass_of_methodNamed B.named
  have hlocks := B.notSynchronized
  have hl := lv_entry ([.ref (ad 4), .int (nI j)]) (n := 2) (Nat.le_of_ble_eq_true rfl)
  rw [lg_entry_eq]
  generalize (lg_sl ([.ref (ad 4), .int (nI j)]) ++ List.replicate (2 - (lg_sl ([.ref (ad 4), .int (nI j)])).length) Slot.unset).toArray = ls at hl ⊢
  have hl : lv_has ls 2 [(0, .ref (ad 4)), (1, .int (nI j))] := hl
  refine lv_aload_n hx hb dX2_stepsTo_0 rfl (lv_at hl 0 rfl) ?_
  refine lv_iload_n hx hb dX2_stepsTo_1 rfl (lv_at hl 1 rfl) ?_
  refine ro_calli (va_runV (As := [.int (nI j)]) (rest := []) ⟨hx, hb, hml, hown, hts⟩ (ct_isPlace_w l en ad c j hj) (cwV 1 hts gX2_stepsTo_X2_isPlace rfl rfl rfl (by decide +kernel) ⟨Nat.le_of_ble_eq_true rfl, Nat.le_of_ble_eq_true rfl⟩) (ct_preV hE (va_recv hE.1 hP (ci := 2) (q0 := 4) rfl rfl) hP) rfl rfl hl.1 rfl (lv_room (Nat.le_of_ble_eq_true rfl)) dX2_stepsTo_2 ⟨Nat.le_of_ble_eq_true rfl, Nat.le_of_ble_eq_true rfl⟩) (fun r2 w2 => ?_)
  obtain rfl : r2 = 1 := w2
  refine lv_if_eq (tgt := 17) hx hb dX2_stepsTo_5 (by decide) (fun b5 => absurd b5 (by decide)) (fun b5 => ?_)
  refine lv_aload_n hx hb dX2_stepsTo_8 rfl (lv_at hl 0 rfl) ?_
  refine va_get (D := en.1) (ci := 2) (v := .ref (ad 16)) (C := RX2) (T := TX2) (N := 2) hx hb hts iw_X2_stepsTo_X2 hown hE.1 hP 4 rfl rfl 0 (by decide) (hts (.fieldLink RX2 9 "CreditGame$Path" "steps" "[I") (by decide +kernel)) (fun _ h9 => h9) rfl dX2_stepsTo_9 ?_
  refine lv_iload_n hx hb dX2_stepsTo_12 rfl (lv_at hl 1 rfl) ?_
  refine xr_ild hx hb hE hP 16 (by decide) j rfl (show _ < 7 by omega) dX2_stepsTo_13 ?_
  refine lv_goto (tgt := 18) hx hb dX2_stepsTo_14 (by decide) ?_
  exact W.iret (v := (c 16 j)) hx hb hr (fun t ht hW => ⟨_, rfl, rfl, ht⟩) (fun q h => by cases h) dX2_stepsTo_18
theorem iw_X2_sumTo_X2 : ∀ w ∈ wsX20, w ∈ wsX2_sumTo := by decide +kernel
set_option maxHeartbeats 4000000 in
set_option maxRecDepth 100000 in
/--  -/
theorem ct_sumTo_w (l : Launch) (en : en_T) (ad : Nat → Nat) (c : Nat → Nat → Int32) (j : Nat) (hj : j < 7) : Met l yX2_sumTo wsX2_sumTo (rm_ 2 0 0) (ct_Pc en [.ref (ad 4), .int (nI j)] (fun H => va_P en.1 vwCl (xw en ad c) H)) (ro_Qi (fun r => r = c 17 j)) 0 0 (fun _ => False) := by
  refine Met.ofW (cc := cX2_sumTo) (maxL := 2) (ret := (some .int)) (by decide) rfl ?_
  intro p e s m args below meth co s₁ B hml hv
  obtain ⟨rfl, hE, hP⟩ := hv
  have hx := B.exec
  have hb := B.bytes
  have hr := B.returns
  have hts := atoms_spec (ws := wsX2_sumTo) B.pre
  have hown : s.vm.findClass RX2 = some m.cls := findClass_of_methodNamed B.named
  have hlocks := B.notSynchronized
  have hl := lv_entry ([.ref (ad 4), .int (nI j)]) (n := 2) (Nat.le_of_ble_eq_true rfl)
  rw [lg_entry_eq]
  generalize (lg_sl ([.ref (ad 4), .int (nI j)]) ++ List.replicate (2 - (lg_sl ([.ref (ad 4), .int (nI j)])).length) Slot.unset).toArray = ls at hl ⊢
  have hl : lv_has ls 2 [(0, .ref (ad 4)), (1, .int (nI j))] := hl
  refine lv_aload_n hx hb dX2_sumTo_0 rfl (lv_at hl 0 rfl) ?_
  refine lv_iload_n hx hb dX2_sumTo_1 rfl (lv_at hl 1 rfl) ?_
  refine ro_calli (va_runV (As := [.int (nI j)]) (rest := []) ⟨hx, hb, hml, hown, hts⟩ (ct_isPlace_w l en ad c j hj) (cwV 1 hts gX2_sumTo_X2_isPlace rfl rfl rfl (by decide +kernel) ⟨Nat.le_of_ble_eq_true rfl, Nat.le_of_ble_eq_true rfl⟩) (ct_preV hE (va_recv hE.1 hP (ci := 2) (q0 := 4) rfl rfl) hP) rfl rfl hl.1 rfl (lv_room (Nat.le_of_ble_eq_true rfl)) dX2_sumTo_2 ⟨Nat.le_of_ble_eq_true rfl, Nat.le_of_ble_eq_true rfl⟩) (fun r2 w2 => ?_)
  obtain rfl : r2 = 1 := w2
  refine lv_if_eq (tgt := 17) hx hb dX2_sumTo_5 (by decide) (fun b5 => absurd b5 (by decide)) (fun b5 => ?_)
  refine lv_aload_n hx hb dX2_sumTo_8 rfl (lv_at hl 0 rfl) ?_
  refine va_get (D := en.1) (ci := 2) (v := .ref (ad 17)) (C := RX2) (T := TX2) (N := 2) hx hb hts iw_X2_sumTo_X2 hown hE.1 hP 4 rfl rfl 1 (by decide) (hts (.fieldLink RX2 15 "CreditGame$Path" "sums" "[I") (by decide +kernel)) (fun _ h9 => h9) rfl dX2_sumTo_9 ?_
  refine lv_iload_n hx hb dX2_sumTo_12 rfl (lv_at hl 1 rfl) ?_
  refine xr_ild hx hb hE hP 17 (by decide) j rfl (show _ < 7 by omega) dX2_sumTo_13 ?_
  refine lv_goto (tgt := 18) hx hb dX2_sumTo_14 (by decide) ?_
  exact W.iret (v := (c 17 j)) hx hb hr (fun t ht hW => ⟨_, rfl, rfl, ht⟩) (fun q h => by cases h) dX2_sumTo_18
theorem iw_X2_enter_X2 : ∀ w ∈ wsX20, w ∈ wsX2_enter := by decide +kernel
set_option maxHeartbeats 4000000 in
set_option maxRecDepth 100000 in
/--  -/
theorem ct_enter_w (l : Launch) (en : en_T) (ad : Nat → Nat) (c : Nat → Nat → Int32) (hI : xw_I ad) (sz : Nat) (j : Nat) (hj : j < 7) (a b : Int32) : Met l yX2_enter wsX2_enter (rm_ 2 0 0) (ct_Pc en [.ref (ad 4), .int (nI j), .int a, .int b] (fun H => H.size = sz ∧ va_P en.1 vwCl (xw en ad c) H)) (va_Qv (fun c' => c' = va_up (va_up c 16 (upd (c 16) j a)) 17 (upd (c 17) j b)) (fun c' t => va_P en.1 vwCl (xw en ad c') t.heap) (xw_A ad sz)) 0 0 (xw_A ad sz) := by
  refine Met.ofW (cc := cX2_enter) (maxL := 4) (ret := none) (by decide) rfl ?_
  intro p e s m args below meth co s₁ B hml hv
  obtain ⟨rfl, hE, hsz, hP⟩ := hv
  subst hsz
  have hx := B.exec
  have hb := B.bytes
  have hr := B.returns
  have hts := atoms_spec (ws := wsX2_enter) B.pre
  have hown : s.vm.findClass RX2 = some m.cls := findClass_of_methodNamed B.named
  have hlocks := B.notSynchronized
  have hS : va_S (xw_A ad s.heap.size) s.heap s.heap [] := va_S.rf
  have hl := lv_entry ([.ref (ad 4), .int (nI j), .int a, .int b]) (n := 4) (Nat.le_of_ble_eq_true rfl)
  rw [lg_entry_eq]
  generalize (lg_sl ([.ref (ad 4), .int (nI j), .int a, .int b]) ++ List.replicate (4 - (lg_sl ([.ref (ad 4), .int (nI j), .int a, .int b])).length) Slot.unset).toArray = ls at hl ⊢
  have hl : lv_has ls 4 [(0, .ref (ad 4)), (1, .int (nI j)), (2, .int a), (3, .int b)] := hl
  refine lv_aload_n hx hb dX2_enter_0 rfl (lv_at hl 0 rfl) ?_
  refine lv_iload_n hx hb dX2_enter_1 rfl (lv_at hl 1 rfl) ?_
  refine ro_calli (va_runV (As := [.int (nI j)]) (rest := []) ⟨hx, hb, hml, hown, hts⟩ (ct_isPlace_w l en ad c j hj) (cwV 1 hts gX2_enter_X2_isPlace rfl rfl rfl (by decide +kernel) ⟨Nat.le_of_ble_eq_true rfl, Nat.le_of_ble_eq_true rfl⟩) (ct_preV hE (va_recv hE.1 hP (ci := 2) (q0 := 4) rfl rfl) hP) rfl rfl hl.1 rfl (lv_room (Nat.le_of_ble_eq_true rfl)) dX2_enter_2 ⟨Nat.le_of_ble_eq_true rfl, Nat.le_of_ble_eq_true rfl⟩) (fun r2 w2 => ?_)
  obtain rfl : r2 = 1 := w2
  refine lv_if_eq (tgt := 22) hx hb dX2_enter_5 (by decide) (fun b5 => absurd b5 (by decide)) (fun b5 => ?_)
  refine lv_aload_n hx hb dX2_enter_8 rfl (lv_at hl 0 rfl) ?_
  refine va_get (D := en.1) (ci := 2) (v := .ref (ad 16)) (C := RX2) (T := TX2) (N := 2) hx hb hts iw_X2_enter_X2 hown hE.1 hP 4 rfl rfl 0 (by decide) (hts (.fieldLink RX2 9 "CreditGame$Path" "steps" "[I") (by decide +kernel)) (fun _ h9 => h9) rfl dX2_enter_9 ?_
  refine lv_iload_n hx hb dX2_enter_12 rfl (lv_at hl 1 rfl) ?_
  refine lv_iload_n hx hb dX2_enter_13 rfl (lv_at hl 2 rfl) ?_
  refine xr_ist hx hb hE hP hI hS 16 (by decide) j rfl (show _ < 7 by omega) dX2_enter_14 (fun H locs hP hS => ?_)
  obtain ⟨c14, ec14⟩ : ∃ z : Nat → Nat → Int32, z = va_up c 16 (upd (c 16) j a) := ⟨_, rfl⟩
  rw [← ec14] at hP
  refine lv_aload_n hx hb dX2_enter_15 rfl (lv_at hl 0 rfl) ?_
  refine va_get (D := en.1) (ci := 2) (v := .ref (ad 17)) (C := RX2) (T := TX2) (N := 2) hx hb hts iw_X2_enter_X2 hown hE.1 hP 4 rfl rfl 1 (by decide) (hts (.fieldLink RX2 15 "CreditGame$Path" "sums" "[I") (by decide +kernel)) (fun _ h9 => h9) rfl dX2_enter_16 ?_
  refine lv_iload_n hx hb dX2_enter_19 rfl (lv_at hl 1 rfl) ?_
  refine lv_iload_n hx hb dX2_enter_20 rfl (lv_at hl 3 rfl) ?_
  refine xr_ist hx hb hE hP hI hS 17 (by decide) j rfl (show _ < 7 by omega) dX2_enter_21 (fun H locs hP hS => ?_)
  obtain ⟨c21, ec21⟩ : ∃ z : Nat → Nat → Int32, z = va_up c14 17 (upd (c14 17) j b) := ⟨_, rfl⟩
  rw [← ec21] at hP
  exact W.vret hx hb hr (fun t ht hW => ⟨⟨c21, rfl, (by rw [ec21, ec14]; rfl), by show va_P _ _ _ t.heap; rw [ht]; exact hP⟩, hS.F ht⟩) hS.2.2 dX2_enter_22
theorem iw_X2_leave_X2 : ∀ w ∈ wsX20, w ∈ wsX2_leave := by decide +kernel
set_option maxHeartbeats 4000000 in
set_option maxRecDepth 100000 in
/--  -/
theorem ct_leave_w (l : Launch) (en : en_T) (ad : Nat → Nat) (c : Nat → Nat → Int32) (hI : xw_I ad) (sz : Nat) (j : Nat) (hj : j < 7) : Met l yX2_leave wsX2_leave (rm_ 2 0 0) (ct_Pc en [.ref (ad 4), .int (nI j)] (fun H => H.size = sz ∧ va_P en.1 vwCl (xw en ad c) H)) (va_Qv (fun c' => c' = va_up c 16 (upd (c 16) j (-1))) (fun c' t => va_P en.1 vwCl (xw en ad c') t.heap) (xw_A ad sz)) 0 0 (xw_A ad sz) := by
  refine Met.ofW (cc := cX2_leave) (maxL := 2) (ret := none) (by decide) rfl ?_
  intro p e s m args below meth co s₁ B hml hv
  obtain ⟨rfl, hE, hsz, hP⟩ := hv
  subst hsz
  have hx := B.exec
  have hb := B.bytes
  have hr := B.returns
  have hts := atoms_spec (ws := wsX2_leave) B.pre
  have hown : s.vm.findClass RX2 = some m.cls := findClass_of_methodNamed B.named
  have hlocks := B.notSynchronized
  have hS : va_S (xw_A ad s.heap.size) s.heap s.heap [] := va_S.rf
  have hl := lv_entry ([.ref (ad 4), .int (nI j)]) (n := 2) (Nat.le_of_ble_eq_true rfl)
  rw [lg_entry_eq]
  generalize (lg_sl ([.ref (ad 4), .int (nI j)]) ++ List.replicate (2 - (lg_sl ([.ref (ad 4), .int (nI j)])).length) Slot.unset).toArray = ls at hl ⊢
  have hl : lv_has ls 2 [(0, .ref (ad 4)), (1, .int (nI j))] := hl
  refine lv_aload_n hx hb dX2_leave_0 rfl (lv_at hl 0 rfl) ?_
  refine lv_iload_n hx hb dX2_leave_1 rfl (lv_at hl 1 rfl) ?_
  refine ro_calli (va_runV (As := [.int (nI j)]) (rest := []) ⟨hx, hb, hml, hown, hts⟩ (ct_isPlace_w l en ad c j hj) (cwV 1 hts gX2_leave_X2_isPlace rfl rfl rfl (by decide +kernel) ⟨Nat.le_of_ble_eq_true rfl, Nat.le_of_ble_eq_true rfl⟩) (ct_preV hE (va_recv hE.1 hP (ci := 2) (q0 := 4) rfl rfl) hP) rfl rfl hl.1 rfl (lv_room (Nat.le_of_ble_eq_true rfl)) dX2_leave_2 ⟨Nat.le_of_ble_eq_true rfl, Nat.le_of_ble_eq_true rfl⟩) (fun r2 w2 => ?_)
  obtain rfl : r2 = 1 := w2
  refine lv_if_eq (tgt := 15) hx hb dX2_leave_5 (by decide) (fun b5 => absurd b5 (by decide)) (fun b5 => ?_)
  refine lv_aload_n hx hb dX2_leave_8 rfl (lv_at hl 0 rfl) ?_
  refine va_get (D := en.1) (ci := 2) (v := .ref (ad 16)) (C := RX2) (T := TX2) (N := 2) hx hb hts iw_X2_leave_X2 hown hE.1 hP 4 rfl rfl 0 (by decide) (hts (.fieldLink RX2 9 "CreditGame$Path" "steps" "[I") (by decide +kernel)) (fun _ h9 => h9) rfl dX2_leave_9 ?_
  refine lv_iload_n hx hb dX2_leave_12 rfl (lv_at hl 1 rfl) ?_
  refine lv_iconst (v := (-1)) hx hb dX2_leave_13 (by decide) ?_
  refine xr_ist hx hb hE hP hI hS 16 (by decide) j rfl (show _ < 7 by omega) dX2_leave_14 (fun H locs hP hS => ?_)
  obtain ⟨c14, ec14⟩ : ∃ z : Nat → Nat → Int32, z = va_up c 16 (upd (c 16) j (-1)) := ⟨_, rfl⟩
  rw [← ec14] at hP
  exact W.vret hx hb hr (fun t ht hW => ⟨⟨c14, rfl, ec14, by show va_P _ _ _ t.heap; rw [ht]; exact hP⟩, hS.F ht⟩) hS.2.2 dX2_leave_15
theorem iw_X2_clear_X2 : ∀ w ∈ wsX20, w ∈ wsX2_clear := by decide +kernel
set_option maxHeartbeats 4000000 in
set_option maxRecDepth 100000 in
/--  -/
theorem ct_clear_w (l : Launch) (en : en_T) (ad : Nat → Nat) (c : Nat → Nat → Int32) (hI : xw_I ad) (sz : Nat)  : Met l yX2_clear wsX2_clear (rm_ 2 0 0) (ct_Pc en [.ref (ad 4)] (fun H => H.size = sz ∧ va_P en.1 vwCl (xw en ad c) H)) (va_Qv (fun c' => ∃ f : Nat → Int32, c' = va_up c 16 f ∧ ∀ j, j < 7 → f j = -1) (fun c' t => va_P en.1 vwCl (xw en ad c') t.heap) (xw_A ad sz)) 0 0 (xw_A ad sz) := by
  refine Met.ofW (cc := cX2_clear) (maxL := 1) (ret := none) (by decide) rfl ?_
  intro p e s m args below meth co s₁ B hml hv
  obtain ⟨rfl, hE, hsz, hP⟩ := hv
  subst hsz
  have hx := B.exec
  have hb := B.bytes
  have hr := B.returns
  have hts := atoms_spec (ws := wsX2_clear) B.pre
  have hown : s.vm.findClass RX2 = some m.cls := findClass_of_methodNamed B.named
  have hlocks := B.notSynchronized
  have hS : va_S (xw_A ad s.heap.size) s.heap s.heap [] := va_S.rf
  have hl := lv_entry ([.ref (ad 4)]) (n := 1) (Nat.le_of_ble_eq_true rfl)
  rw [lg_entry_eq]
  generalize (lg_sl ([.ref (ad 4)]) ++ List.replicate (1 - (lg_sl ([.ref (ad 4)])).length) Slot.unset).toArray = ls at hl ⊢
  have hl : lv_has ls 1 [(0, .ref (ad 4))] := hl
  refine lv_aload_n hx hb dX2_clear_0 rfl (lv_at hl 0 rfl) ?_
  refine va_get (D := en.1) (ci := 2) (v := .ref (ad 16)) (C := RX2) (T := TX2) (N := 2) hx hb hts iw_X2_clear_X2 hown hE.1 hP 4 rfl rfl 0 (by decide) (hts (.fieldLink RX2 9 "CreditGame$Path" "steps" "[I") (by decide +kernel)) (fun _ h9 => h9) rfl dX2_clear_1 ?_
  refine lv_iconst (v := (-1)) hx hb dX2_clear_4 (by decide) ?_
  refine xr_callv (va_runS (As := [.ref (ad 16), .int (-1)]) (rest := []) ⟨hx, hb, hml, hown, hts⟩ (ct_fill l en ad c hI _ 16 (by decide) (-1)) (va_cwS 2 hts gX2_clear_J7_fill_53178 rfl rfl rfl (by decide +kernel) ⟨Nat.le_of_ble_eq_true rfl, Nat.le_of_ble_eq_true rfl⟩) (ct_preS hE ⟨rfl, hP⟩) rfl rfl hl.1 rfl (lv_room (Nat.le_of_ble_eq_true rfl)) dX2_clear_5 ⟨Nat.le_of_ble_eq_true rfl, Nat.le_of_ble_eq_true rfl⟩) hS (fun c5 H locs w5 hP hS => ?_)
  exact W.vret hx hb hr (fun t ht hW => ⟨⟨c5, rfl, w5, by show va_P _ _ _ t.heap; rw [ht]; exact hP⟩, hS.F ht⟩) hS.2.2 dX2_clear_8
set_option maxHeartbeats 4000000 in
set_option maxRecDepth 100000 in
/--  -/
theorem ct_isPlace_p (l : Launch) (en : en_T) (ad : Nat → Nat) (c : Nat → Nat → Int32) (j : Nat) (hj : j < 7) : Met l yX2_isPlace wsX2_isPlace (rm_ 1 0 0) (ct_Pc en [.ref (ad 5), .int (nI j)] (fun H => va_P en.1 vwCl (xw en ad c) H)) (ro_Qi (fun r => r = 1)) 0 0 (fun _ => False) := by
  refine Met.ofW (cc := cX2_isPlace) (maxL := 2) (ret := (some .boolean)) (by decide) rfl ?_
  intro p e s m args below meth co s₁ B hml hv
  obtain ⟨rfl, hE, hP⟩ := hv
  have hx := B.exec
  have hb := B.bytes
  have hr := B.returns
  have hts := atoms_spec (ws := wsX2_isPlace) B.pre
  have hown : s.vm.findClass RX2 = some m.cls := findClass_of_methodNamed B.named
  have hlocks := B.notSynchronized
  have hl := lv_entry ([.ref (ad 5), .int (nI j)]) (n := 2) (Nat.le_of_ble_eq_true rfl)
  rw [lg_entry_eq]
  generalize (lg_sl ([.ref (ad 5), .int (nI j)]) ++ List.replicate (2 - (lg_sl ([.ref (ad 5), .int (nI j)])).length) Slot.unset).toArray = ls at hl ⊢
  have hl : lv_has ls 2 [(0, .ref (ad 5)), (1, .int (nI j))] := hl
  refine lv_iload_n hx hb dX2_isPlace_0 rfl (lv_at hl 1 rfl) ?_
  refine lv_if_lt (tgt := 14) hx hb dX2_isPlace_1 (by decide) (fun b1 => absurd b1 (nI_pos (by omega))) (fun b1 => ?_)
  refine lv_iload_n hx hb dX2_isPlace_4 rfl (lv_at hl 1 rfl) ?_
  refine lv_bipush (v := (nI 7)) hx hb dX2_isPlace_5 (by decide) ?_
  refine lv_icmp_ge (tgt := 14) hx hb dX2_isPlace_7 (by decide) (fun b7 => absurd b7 (nI_ge (show j < 7 by omega) (by omega))) (fun b7 => ?_)
  refine lv_iconst (v := 1) hx hb dX2_isPlace_10 (by decide) ?_
  refine lv_goto (tgt := 15) hx hb dX2_isPlace_11 (by decide) ?_
  exact W.zret (v := 1) (ty := .boolean) hx hb hr rfl (fun t ht hW => ⟨_, rfl, rfl, ht⟩) (fun q h => by cases h) dX2_isPlace_15
set_option maxHeartbeats 4000000 in
set_option maxRecDepth 100000 in
/--  -/
theorem ct_has_p (l : Launch) (en : en_T) (ad : Nat → Nat) (c : Nat → Nat → Int32) (j : Nat) (hj : j < 7) : Met l yX2_has wsX2_has (rm_ 2 0 0) (ct_Pc en [.ref (ad 5), .int (nI j)] (fun H => va_P en.1 vwCl (xw en ad c) H)) (ro_Qi (fun r => r = if c 18 j = -1 then 0 else 1)) 0 0 (fun _ => False) := by
  refine Met.ofW (cc := cX2_has) (maxL := 2) (ret := (some .boolean)) (by decide) rfl ?_
  intro p e s m args below meth co s₁ B hml hv
  obtain ⟨rfl, hE, hP⟩ := hv
  have hx := B.exec
  have hb := B.bytes
  have hr := B.returns
  have hts := atoms_spec (ws := wsX2_has) B.pre
  have hown : s.vm.findClass RX2 = some m.cls := findClass_of_methodNamed B.named
  have hlocks := B.notSynchronized
  have hl := lv_entry ([.ref (ad 5), .int (nI j)]) (n := 2) (Nat.le_of_ble_eq_true rfl)
  rw [lg_entry_eq]
  generalize (lg_sl ([.ref (ad 5), .int (nI j)]) ++ List.replicate (2 - (lg_sl ([.ref (ad 5), .int (nI j)])).length) Slot.unset).toArray = ls at hl ⊢
  have hl : lv_has ls 2 [(0, .ref (ad 5)), (1, .int (nI j))] := hl
  refine lv_aload_n hx hb dX2_has_0 rfl (lv_at hl 0 rfl) ?_
  refine lv_iload_n hx hb dX2_has_1 rfl (lv_at hl 1 rfl) ?_
  refine ro_calli (va_runV (As := [.int (nI j)]) (rest := []) ⟨hx, hb, hml, hown, hts⟩ (ct_isPlace_p l en ad c j hj) (cwV 1 hts gX2_has_X2_isPlace rfl rfl rfl (by decide +kernel) ⟨Nat.le_of_ble_eq_true rfl, Nat.le_of_ble_eq_true rfl⟩) (ct_preV hE (va_recv hE.1 hP (ci := 2) (q0 := 5) rfl rfl) hP) rfl rfl hl.1 rfl (lv_room (Nat.le_of_ble_eq_true rfl)) dX2_has_2 ⟨Nat.le_of_ble_eq_true rfl, Nat.le_of_ble_eq_true rfl⟩) (fun r2 w2 => ?_)
  obtain rfl : r2 = 1 := w2
  refine lv_if_eq (tgt := 22) hx hb dX2_has_5 (by decide) (fun b5 => absurd b5 (by decide)) (fun b5 => ?_)
  refine lv_aload_n hx hb dX2_has_8 rfl (lv_at hl 0 rfl) ?_
  refine va_get (D := en.1) (ci := 2) (v := .ref (ad 18)) (C := RX2) (T := TX2) (N := 2) hx hb hts iw_X2_has_X2 hown hE.1 hP 5 rfl rfl 0 (by decide) (hts (.fieldLink RX2 9 "CreditGame$Path" "steps" "[I") (by decide +kernel)) (fun _ h9 => h9) rfl dX2_has_9 ?_
  refine lv_iload_n hx hb dX2_has_12 rfl (lv_at hl 1 rfl) ?_
  refine xr_ild hx hb hE hP 18 (by decide) j rfl (show _ < 7 by omega) dX2_has_13 ?_
  refine lv_iconst (v := (-1)) hx hb dX2_has_14 (by decide) ?_
  refine lv_icmp_eq (tgt := 22) hx hb dX2_has_15 (by decide) (fun b15 => ?_) (fun b15 => ?_)
  · skip
    refine lv_iconst (v := 0) hx hb dX2_has_22 (by decide) ?_
    exact W.zret (v := 0) (ty := .boolean) hx hb hr rfl (fun t ht hW => ⟨_, rfl, (by first | exact (if_pos b15).symm | exact (if_neg b15).symm), ht⟩) (fun q h => by cases h) dX2_has_23
  · skip
    refine lv_iconst (v := 1) hx hb dX2_has_18 (by decide) ?_
    refine lv_goto (tgt := 23) hx hb dX2_has_19 (by decide) ?_
    exact W.zret (v := 1) (ty := .boolean) hx hb hr rfl (fun t ht hW => ⟨_, rfl, (by first | exact (if_pos b15).symm | exact (if_neg b15).symm), ht⟩) (fun q h => by cases h) dX2_has_23
set_option maxHeartbeats 4000000 in
set_option maxRecDepth 100000 in
/--  -/
theorem ct_stepsTo_p (l : Launch) (en : en_T) (ad : Nat → Nat) (c : Nat → Nat → Int32) (j : Nat) (hj : j < 7) : Met l yX2_stepsTo wsX2_stepsTo (rm_ 2 0 0) (ct_Pc en [.ref (ad 5), .int (nI j)] (fun H => va_P en.1 vwCl (xw en ad c) H)) (ro_Qi (fun r => r = c 18 j)) 0 0 (fun _ => False) := by
  refine Met.ofW (cc := cX2_stepsTo) (maxL := 2) (ret := (some .int)) (by decide) rfl ?_
  intro p e s m args below meth co s₁ B hml hv
  obtain ⟨rfl, hE, hP⟩ := hv
  have hx := B.exec
  have hb := B.bytes
  have hr := B.returns
  have hts := atoms_spec (ws := wsX2_stepsTo) B.pre
  have hown : s.vm.findClass RX2 = some m.cls := findClass_of_methodNamed B.named
  have hlocks := B.notSynchronized
  have hl := lv_entry ([.ref (ad 5), .int (nI j)]) (n := 2) (Nat.le_of_ble_eq_true rfl)
  rw [lg_entry_eq]
  generalize (lg_sl ([.ref (ad 5), .int (nI j)]) ++ List.replicate (2 - (lg_sl ([.ref (ad 5), .int (nI j)])).length) Slot.unset).toArray = ls at hl ⊢
  have hl : lv_has ls 2 [(0, .ref (ad 5)), (1, .int (nI j))] := hl
  refine lv_aload_n hx hb dX2_stepsTo_0 rfl (lv_at hl 0 rfl) ?_
  refine lv_iload_n hx hb dX2_stepsTo_1 rfl (lv_at hl 1 rfl) ?_
  refine ro_calli (va_runV (As := [.int (nI j)]) (rest := []) ⟨hx, hb, hml, hown, hts⟩ (ct_isPlace_p l en ad c j hj) (cwV 1 hts gX2_stepsTo_X2_isPlace rfl rfl rfl (by decide +kernel) ⟨Nat.le_of_ble_eq_true rfl, Nat.le_of_ble_eq_true rfl⟩) (ct_preV hE (va_recv hE.1 hP (ci := 2) (q0 := 5) rfl rfl) hP) rfl rfl hl.1 rfl (lv_room (Nat.le_of_ble_eq_true rfl)) dX2_stepsTo_2 ⟨Nat.le_of_ble_eq_true rfl, Nat.le_of_ble_eq_true rfl⟩) (fun r2 w2 => ?_)
  obtain rfl : r2 = 1 := w2
  refine lv_if_eq (tgt := 17) hx hb dX2_stepsTo_5 (by decide) (fun b5 => absurd b5 (by decide)) (fun b5 => ?_)
  refine lv_aload_n hx hb dX2_stepsTo_8 rfl (lv_at hl 0 rfl) ?_
  refine va_get (D := en.1) (ci := 2) (v := .ref (ad 18)) (C := RX2) (T := TX2) (N := 2) hx hb hts iw_X2_stepsTo_X2 hown hE.1 hP 5 rfl rfl 0 (by decide) (hts (.fieldLink RX2 9 "CreditGame$Path" "steps" "[I") (by decide +kernel)) (fun _ h9 => h9) rfl dX2_stepsTo_9 ?_
  refine lv_iload_n hx hb dX2_stepsTo_12 rfl (lv_at hl 1 rfl) ?_
  refine xr_ild hx hb hE hP 18 (by decide) j rfl (show _ < 7 by omega) dX2_stepsTo_13 ?_
  refine lv_goto (tgt := 18) hx hb dX2_stepsTo_14 (by decide) ?_
  exact W.iret (v := (c 18 j)) hx hb hr (fun t ht hW => ⟨_, rfl, rfl, ht⟩) (fun q h => by cases h) dX2_stepsTo_18
set_option maxHeartbeats 4000000 in
set_option maxRecDepth 100000 in
/--  -/
theorem ct_sumTo_p (l : Launch) (en : en_T) (ad : Nat → Nat) (c : Nat → Nat → Int32) (j : Nat) (hj : j < 7) : Met l yX2_sumTo wsX2_sumTo (rm_ 2 0 0) (ct_Pc en [.ref (ad 5), .int (nI j)] (fun H => va_P en.1 vwCl (xw en ad c) H)) (ro_Qi (fun r => r = c 19 j)) 0 0 (fun _ => False) := by
  refine Met.ofW (cc := cX2_sumTo) (maxL := 2) (ret := (some .int)) (by decide) rfl ?_
  intro p e s m args below meth co s₁ B hml hv
  obtain ⟨rfl, hE, hP⟩ := hv
  have hx := B.exec
  have hb := B.bytes
  have hr := B.returns
  have hts := atoms_spec (ws := wsX2_sumTo) B.pre
  have hown : s.vm.findClass RX2 = some m.cls := findClass_of_methodNamed B.named
  have hlocks := B.notSynchronized
  have hl := lv_entry ([.ref (ad 5), .int (nI j)]) (n := 2) (Nat.le_of_ble_eq_true rfl)
  rw [lg_entry_eq]
  generalize (lg_sl ([.ref (ad 5), .int (nI j)]) ++ List.replicate (2 - (lg_sl ([.ref (ad 5), .int (nI j)])).length) Slot.unset).toArray = ls at hl ⊢
  have hl : lv_has ls 2 [(0, .ref (ad 5)), (1, .int (nI j))] := hl
  refine lv_aload_n hx hb dX2_sumTo_0 rfl (lv_at hl 0 rfl) ?_
  refine lv_iload_n hx hb dX2_sumTo_1 rfl (lv_at hl 1 rfl) ?_
  refine ro_calli (va_runV (As := [.int (nI j)]) (rest := []) ⟨hx, hb, hml, hown, hts⟩ (ct_isPlace_p l en ad c j hj) (cwV 1 hts gX2_sumTo_X2_isPlace rfl rfl rfl (by decide +kernel) ⟨Nat.le_of_ble_eq_true rfl, Nat.le_of_ble_eq_true rfl⟩) (ct_preV hE (va_recv hE.1 hP (ci := 2) (q0 := 5) rfl rfl) hP) rfl rfl hl.1 rfl (lv_room (Nat.le_of_ble_eq_true rfl)) dX2_sumTo_2 ⟨Nat.le_of_ble_eq_true rfl, Nat.le_of_ble_eq_true rfl⟩) (fun r2 w2 => ?_)
  obtain rfl : r2 = 1 := w2
  refine lv_if_eq (tgt := 17) hx hb dX2_sumTo_5 (by decide) (fun b5 => absurd b5 (by decide)) (fun b5 => ?_)
  refine lv_aload_n hx hb dX2_sumTo_8 rfl (lv_at hl 0 rfl) ?_
  refine va_get (D := en.1) (ci := 2) (v := .ref (ad 19)) (C := RX2) (T := TX2) (N := 2) hx hb hts iw_X2_sumTo_X2 hown hE.1 hP 5 rfl rfl 1 (by decide) (hts (.fieldLink RX2 15 "CreditGame$Path" "sums" "[I") (by decide +kernel)) (fun _ h9 => h9) rfl dX2_sumTo_9 ?_
  refine lv_iload_n hx hb dX2_sumTo_12 rfl (lv_at hl 1 rfl) ?_
  refine xr_ild hx hb hE hP 19 (by decide) j rfl (show _ < 7 by omega) dX2_sumTo_13 ?_
  refine lv_goto (tgt := 18) hx hb dX2_sumTo_14 (by decide) ?_
  exact W.iret (v := (c 19 j)) hx hb hr (fun t ht hW => ⟨_, rfl, rfl, ht⟩) (fun q h => by cases h) dX2_sumTo_18
set_option maxHeartbeats 4000000 in
set_option maxRecDepth 100000 in
/--  -/
theorem ct_enter_p (l : Launch) (en : en_T) (ad : Nat → Nat) (c : Nat → Nat → Int32) (hI : xw_I ad) (sz : Nat) (j : Nat) (hj : j < 7) (a b : Int32) : Met l yX2_enter wsX2_enter (rm_ 2 0 0) (ct_Pc en [.ref (ad 5), .int (nI j), .int a, .int b] (fun H => H.size = sz ∧ va_P en.1 vwCl (xw en ad c) H)) (va_Qv (fun c' => c' = va_up (va_up c 18 (upd (c 18) j a)) 19 (upd (c 19) j b)) (fun c' t => va_P en.1 vwCl (xw en ad c') t.heap) (xw_A ad sz)) 0 0 (xw_A ad sz) := by
  refine Met.ofW (cc := cX2_enter) (maxL := 4) (ret := none) (by decide) rfl ?_
  intro p e s m args below meth co s₁ B hml hv
  obtain ⟨rfl, hE, hsz, hP⟩ := hv
  subst hsz
  have hx := B.exec
  have hb := B.bytes
  have hr := B.returns
  have hts := atoms_spec (ws := wsX2_enter) B.pre
  have hown : s.vm.findClass RX2 = some m.cls := findClass_of_methodNamed B.named
  have hlocks := B.notSynchronized
  have hS : va_S (xw_A ad s.heap.size) s.heap s.heap [] := va_S.rf
  have hl := lv_entry ([.ref (ad 5), .int (nI j), .int a, .int b]) (n := 4) (Nat.le_of_ble_eq_true rfl)
  rw [lg_entry_eq]
  generalize (lg_sl ([.ref (ad 5), .int (nI j), .int a, .int b]) ++ List.replicate (4 - (lg_sl ([.ref (ad 5), .int (nI j), .int a, .int b])).length) Slot.unset).toArray = ls at hl ⊢
  have hl : lv_has ls 4 [(0, .ref (ad 5)), (1, .int (nI j)), (2, .int a), (3, .int b)] := hl
  refine lv_aload_n hx hb dX2_enter_0 rfl (lv_at hl 0 rfl) ?_
  refine lv_iload_n hx hb dX2_enter_1 rfl (lv_at hl 1 rfl) ?_
  refine ro_calli (va_runV (As := [.int (nI j)]) (rest := []) ⟨hx, hb, hml, hown, hts⟩ (ct_isPlace_p l en ad c j hj) (cwV 1 hts gX2_enter_X2_isPlace rfl rfl rfl (by decide +kernel) ⟨Nat.le_of_ble_eq_true rfl, Nat.le_of_ble_eq_true rfl⟩) (ct_preV hE (va_recv hE.1 hP (ci := 2) (q0 := 5) rfl rfl) hP) rfl rfl hl.1 rfl (lv_room (Nat.le_of_ble_eq_true rfl)) dX2_enter_2 ⟨Nat.le_of_ble_eq_true rfl, Nat.le_of_ble_eq_true rfl⟩) (fun r2 w2 => ?_)
  obtain rfl : r2 = 1 := w2
  refine lv_if_eq (tgt := 22) hx hb dX2_enter_5 (by decide) (fun b5 => absurd b5 (by decide)) (fun b5 => ?_)
  refine lv_aload_n hx hb dX2_enter_8 rfl (lv_at hl 0 rfl) ?_
  refine va_get (D := en.1) (ci := 2) (v := .ref (ad 18)) (C := RX2) (T := TX2) (N := 2) hx hb hts iw_X2_enter_X2 hown hE.1 hP 5 rfl rfl 0 (by decide) (hts (.fieldLink RX2 9 "CreditGame$Path" "steps" "[I") (by decide +kernel)) (fun _ h9 => h9) rfl dX2_enter_9 ?_
  refine lv_iload_n hx hb dX2_enter_12 rfl (lv_at hl 1 rfl) ?_
  refine lv_iload_n hx hb dX2_enter_13 rfl (lv_at hl 2 rfl) ?_
  refine xr_ist hx hb hE hP hI hS 18 (by decide) j rfl (show _ < 7 by omega) dX2_enter_14 (fun H locs hP hS => ?_)
  obtain ⟨c14, ec14⟩ : ∃ z : Nat → Nat → Int32, z = va_up c 18 (upd (c 18) j a) := ⟨_, rfl⟩
  rw [← ec14] at hP
  refine lv_aload_n hx hb dX2_enter_15 rfl (lv_at hl 0 rfl) ?_
  refine va_get (D := en.1) (ci := 2) (v := .ref (ad 19)) (C := RX2) (T := TX2) (N := 2) hx hb hts iw_X2_enter_X2 hown hE.1 hP 5 rfl rfl 1 (by decide) (hts (.fieldLink RX2 15 "CreditGame$Path" "sums" "[I") (by decide +kernel)) (fun _ h9 => h9) rfl dX2_enter_16 ?_
  refine lv_iload_n hx hb dX2_enter_19 rfl (lv_at hl 1 rfl) ?_
  refine lv_iload_n hx hb dX2_enter_20 rfl (lv_at hl 3 rfl) ?_
  refine xr_ist hx hb hE hP hI hS 19 (by decide) j rfl (show _ < 7 by omega) dX2_enter_21 (fun H locs hP hS => ?_)
  obtain ⟨c21, ec21⟩ : ∃ z : Nat → Nat → Int32, z = va_up c14 19 (upd (c14 19) j b) := ⟨_, rfl⟩
  rw [← ec21] at hP
  exact W.vret hx hb hr (fun t ht hW => ⟨⟨c21, rfl, (by rw [ec21, ec14]; rfl), by show va_P _ _ _ t.heap; rw [ht]; exact hP⟩, hS.F ht⟩) hS.2.2 dX2_enter_22
set_option maxHeartbeats 4000000 in
set_option maxRecDepth 100000 in
/--  -/
theorem ct_leave_p (l : Launch) (en : en_T) (ad : Nat → Nat) (c : Nat → Nat → Int32) (hI : xw_I ad) (sz : Nat) (j : Nat) (hj : j < 7) : Met l yX2_leave wsX2_leave (rm_ 2 0 0) (ct_Pc en [.ref (ad 5), .int (nI j)] (fun H => H.size = sz ∧ va_P en.1 vwCl (xw en ad c) H)) (va_Qv (fun c' => c' = va_up c 18 (upd (c 18) j (-1))) (fun c' t => va_P en.1 vwCl (xw en ad c') t.heap) (xw_A ad sz)) 0 0 (xw_A ad sz) := by
  refine Met.ofW (cc := cX2_leave) (maxL := 2) (ret := none) (by decide) rfl ?_
  intro p e s m args below meth co s₁ B hml hv
  obtain ⟨rfl, hE, hsz, hP⟩ := hv
  subst hsz
  have hx := B.exec
  have hb := B.bytes
  have hr := B.returns
  have hts := atoms_spec (ws := wsX2_leave) B.pre
  have hown : s.vm.findClass RX2 = some m.cls := findClass_of_methodNamed B.named
  have hlocks := B.notSynchronized
  have hS : va_S (xw_A ad s.heap.size) s.heap s.heap [] := va_S.rf
  have hl := lv_entry ([.ref (ad 5), .int (nI j)]) (n := 2) (Nat.le_of_ble_eq_true rfl)
  rw [lg_entry_eq]
  generalize (lg_sl ([.ref (ad 5), .int (nI j)]) ++ List.replicate (2 - (lg_sl ([.ref (ad 5), .int (nI j)])).length) Slot.unset).toArray = ls at hl ⊢
  have hl : lv_has ls 2 [(0, .ref (ad 5)), (1, .int (nI j))] := hl
  refine lv_aload_n hx hb dX2_leave_0 rfl (lv_at hl 0 rfl) ?_
  refine lv_iload_n hx hb dX2_leave_1 rfl (lv_at hl 1 rfl) ?_
  refine ro_calli (va_runV (As := [.int (nI j)]) (rest := []) ⟨hx, hb, hml, hown, hts⟩ (ct_isPlace_p l en ad c j hj) (cwV 1 hts gX2_leave_X2_isPlace rfl rfl rfl (by decide +kernel) ⟨Nat.le_of_ble_eq_true rfl, Nat.le_of_ble_eq_true rfl⟩) (ct_preV hE (va_recv hE.1 hP (ci := 2) (q0 := 5) rfl rfl) hP) rfl rfl hl.1 rfl (lv_room (Nat.le_of_ble_eq_true rfl)) dX2_leave_2 ⟨Nat.le_of_ble_eq_true rfl, Nat.le_of_ble_eq_true rfl⟩) (fun r2 w2 => ?_)
  obtain rfl : r2 = 1 := w2
  refine lv_if_eq (tgt := 15) hx hb dX2_leave_5 (by decide) (fun b5 => absurd b5 (by decide)) (fun b5 => ?_)
  refine lv_aload_n hx hb dX2_leave_8 rfl (lv_at hl 0 rfl) ?_
  refine va_get (D := en.1) (ci := 2) (v := .ref (ad 18)) (C := RX2) (T := TX2) (N := 2) hx hb hts iw_X2_leave_X2 hown hE.1 hP 5 rfl rfl 0 (by decide) (hts (.fieldLink RX2 9 "CreditGame$Path" "steps" "[I") (by decide +kernel)) (fun _ h9 => h9) rfl dX2_leave_9 ?_
  refine lv_iload_n hx hb dX2_leave_12 rfl (lv_at hl 1 rfl) ?_
  refine lv_iconst (v := (-1)) hx hb dX2_leave_13 (by decide) ?_
  refine xr_ist hx hb hE hP hI hS 18 (by decide) j rfl (show _ < 7 by omega) dX2_leave_14 (fun H locs hP hS => ?_)
  obtain ⟨c14, ec14⟩ : ∃ z : Nat → Nat → Int32, z = va_up c 18 (upd (c 18) j (-1)) := ⟨_, rfl⟩
  rw [← ec14] at hP
  exact W.vret hx hb hr (fun t ht hW => ⟨⟨c14, rfl, ec14, by show va_P _ _ _ t.heap; rw [ht]; exact hP⟩, hS.F ht⟩) hS.2.2 dX2_leave_15
set_option maxHeartbeats 4000000 in
set_option maxRecDepth 100000 in
/--  -/
theorem ct_clear_p (l : Launch) (en : en_T) (ad : Nat → Nat) (c : Nat → Nat → Int32) (hI : xw_I ad) (sz : Nat)  : Met l yX2_clear wsX2_clear (rm_ 2 0 0) (ct_Pc en [.ref (ad 5)] (fun H => H.size = sz ∧ va_P en.1 vwCl (xw en ad c) H)) (va_Qv (fun c' => ∃ f : Nat → Int32, c' = va_up c 18 f ∧ ∀ j, j < 7 → f j = -1) (fun c' t => va_P en.1 vwCl (xw en ad c') t.heap) (xw_A ad sz)) 0 0 (xw_A ad sz) := by
  refine Met.ofW (cc := cX2_clear) (maxL := 1) (ret := none) (by decide) rfl ?_
  intro p e s m args below meth co s₁ B hml hv
  obtain ⟨rfl, hE, hsz, hP⟩ := hv
  subst hsz
  have hx := B.exec
  have hb := B.bytes
  have hr := B.returns
  have hts := atoms_spec (ws := wsX2_clear) B.pre
  have hown : s.vm.findClass RX2 = some m.cls := findClass_of_methodNamed B.named
  have hlocks := B.notSynchronized
  have hS : va_S (xw_A ad s.heap.size) s.heap s.heap [] := va_S.rf
  have hl := lv_entry ([.ref (ad 5)]) (n := 1) (Nat.le_of_ble_eq_true rfl)
  rw [lg_entry_eq]
  generalize (lg_sl ([.ref (ad 5)]) ++ List.replicate (1 - (lg_sl ([.ref (ad 5)])).length) Slot.unset).toArray = ls at hl ⊢
  have hl : lv_has ls 1 [(0, .ref (ad 5))] := hl
  refine lv_aload_n hx hb dX2_clear_0 rfl (lv_at hl 0 rfl) ?_
  refine va_get (D := en.1) (ci := 2) (v := .ref (ad 18)) (C := RX2) (T := TX2) (N := 2) hx hb hts iw_X2_clear_X2 hown hE.1 hP 5 rfl rfl 0 (by decide) (hts (.fieldLink RX2 9 "CreditGame$Path" "steps" "[I") (by decide +kernel)) (fun _ h9 => h9) rfl dX2_clear_1 ?_
  refine lv_iconst (v := (-1)) hx hb dX2_clear_4 (by decide) ?_
  refine xr_callv (va_runS (As := [.ref (ad 18), .int (-1)]) (rest := []) ⟨hx, hb, hml, hown, hts⟩ (ct_fill l en ad c hI _ 18 (by decide) (-1)) (va_cwS 2 hts gX2_clear_J7_fill_53178 rfl rfl rfl (by decide +kernel) ⟨Nat.le_of_ble_eq_true rfl, Nat.le_of_ble_eq_true rfl⟩) (ct_preS hE ⟨rfl, hP⟩) rfl rfl hl.1 rfl (lv_room (Nat.le_of_ble_eq_true rfl)) dX2_clear_5 ⟨Nat.le_of_ble_eq_true rfl, Nat.le_of_ble_eq_true rfl⟩) hS (fun c5 H locs w5 hP hS => ?_)
  exact W.vret hx hb hr (fun t ht hW => ⟨⟨c5, rfl, w5, by show va_P _ _ _ t.heap; rw [ht]; exact hP⟩, hS.F ht⟩) hS.2.2 dX2_clear_8
end
section
/-! ===== ints as whole numbers ===== -/
theorem i_add {a b : Int32} (h1 : -2147483648 ≤ a.toInt + b.toInt) (h2 : a.toInt + b.toInt < 2147483648) : (a + b).toInt = a.toInt + b.toInt := by
  rw [Int32.toInt_add]
  exact Int.bmod_eq_of_le (by omega) (by omega)
theorem i_sub {a b : Int32} (h1 : -2147483648 ≤ a.toInt - b.toInt) (h2 : a.toInt - b.toInt < 2147483648) : (a - b).toInt = a.toInt - b.toInt := by
  rw [Int32.toInt_sub]
  exact Int.bmod_eq_of_le (by omega) (by omega)
theorem i_mul {a b : Int32} (h1 : -2147483648 ≤ a.toInt * b.toInt) (h2 : a.toInt * b.toInt < 2147483648) : (a * b).toInt = a.toInt * b.toInt := by
  rw [Int32.toInt_mul]
  exact Int.bmod_eq_of_le (by omega) (by omega)
theorem i_neg {a : Int32} (h1 : -2147483648 < a.toInt) : (-a).toInt = -a.toInt := by
  have h2 := Int32.toInt_lt a
  rw [Int32.toInt_neg]
  exact Int.bmod_eq_of_le (by omega) (by omega)
theorem i_eq {a b : Int32} (h : a.toInt = b.toInt) : a = b := Int32.toInt_inj.mp h
theorem i_lt {a b : Int32} : a < b ↔ a.toInt < b.toInt := Int32.lt_iff_toInt_lt
theorem i_le {a b : Int32} : a ≤ b ↔ a.toInt ≤ b.toInt := Int32.le_iff_toInt_le
theorem i_420 : (420 : Int32).toInt = 420 := by decide
theorem i_m1 : (-1 : Int32).toInt = -1 := by decide
theorem i_0 : (0 : Int32).toInt = 0 := by decide
theorem i_1 : (1 : Int32).toInt = 1 := by decide
theorem i_hi : (1000000 : Int32).toInt = 1000000 := by decide
theorem i_lo : (-1000000 : Int32).toInt = -1000000 := by decide
/-- the greater of two ints, as the machine tells it -/
theorem i_max {x y : Int32} : (if x < y then y else x).toInt = max x.toInt y.toInt := by
  by_cases h : x < y
  · rw [if_pos h]
    have := i_lt.mp h
    omega
  · rw [if_neg h]
    have : ¬ x.toInt < y.toInt := fun q => h (i_lt.mpr q)
    omega
theorem i_min {x y : Int32} : (if y < x then y else x).toInt = min x.toInt y.toInt := by
  by_cases h : y < x
  · rw [if_pos h]
    have := i_lt.mp h
    omega
  · rw [if_neg h]
    have : ¬ y.toInt < x.toInt := fun q => h (i_lt.mpr q)
    omega
/-- what other cells hold stays -/
def kx (S : List Nat) (c c' : Nat → Nat → Int32) : Prop := ∀ k, k ∉ S → c' k = c k
theorem kx.rf {S : List Nat} {c : Nat → Nat → Int32} : kx S c c := fun _ _ => rfl
theorem kx.tr {S : List Nat} {a b c : Nat → Nat → Int32} (h1 : kx S a b) (h2 : kx S b c) : kx S a c := fun k hk => (h2 k hk).trans (h1 k hk)
theorem kx.up {S : List Nat} {c : Nat → Nat → Int32} {k : Nat} {f : Nat → Int32} (h : k ∈ S) : kx S c (va_up c k f) := fun _ hj => up_ne (fun e => hj (e ▸ h))
theorem kx.wide {S T : List Nat} {c c' : Nat → Nat → Int32} (h : kx S c c') (hST : ∀ k ∈ S, k ∈ T) : kx T c c' := fun k hk => h k (fun q => hk (hST k q))
theorem gi.kx {G : gr_T} {S : List Nat} {c c' : Nat → Nat → Int32} (h : gi G c) (hk : kx S c c') (hS : ∀ k ∈ S, 12 ≤ k ∧ k ≤ 20) : gi G c' := by
  have e : ∀ j, j < 12 ∨ 22 ≤ j → c' j = c j := fun j hj => hk j (fun q => by have := hS j q; omega)
  obtain ⟨h1, h2, h3, h4, h5, h6, h7, h8, h9⟩ := h
  refine ⟨h1, ?_, ?_, ?_, ?_, ?_, ?_, ?_, fun v hv => ?_⟩
  · rw [e 1 (by omega)]; exact h2
  · rw [e 1 (by omega)]; exact h3
  · rw [e 6 (by omega)]; exact h4
  · rw [e 7 (by omega)]; exact h5
  · rw [e 9 (by omega)]; exact h6
  · rw [e 10 (by omega)]; exact h7
  · rw [e 11 (by omega)]; exact h8
  · rw [e 8 (by omega), e (22 + v) (by omega)]; exact h9 v hv
/-! ===== values: what the search keeps ===== -/
/-- an edge leads on from each vertex, and there is one -/
def gr_cpl (G : gr_T) : Prop := 0 < gr_n G ∧ ∀ v, v < gr_n G → gr_adj G v ≠ []
def vl_p (G : gr_T) : Nat → List (Nat × Int) → Nat → Int → Int := gm_pay (gr_adj G) (gr_tgt G) (gr_ow G) (gr_w G)
/-- the value, in parts of 1/420 -/
def vl_F (G : gr_T) (v : Nat) : Int := vl_p G 8 [] v 0
/-- the path's cells hold the path -/
def pr (π : List (Nat × Int)) (c : Nat → Nat → Int32) : Prop := ∀ j, j < 7 → (gm_at π j = none → c 18 j = -1) ∧ ∀ (d : Nat) (s0 : Int), gm_at π j = some (d, s0) → c 18 j = nI (π.length - d) ∧ (c 19 j).toInt = s0
/-- exact between lo and hi; outside, the side -/
def ab (lo hi P r : Int) : Prop := (P ≤ lo → r ≤ lo) ∧ (hi ≤ P → hi ≤ r) ∧ (lo < P → P < hi → r = P)
theorem pr_push {π : List (Nat × Int)} {c : Nat → Nat → Int32} {j : Nat} {a b : Int32} (h : pr π c) (ha : a = nI π.length) {s : Int} (hb : b.toInt = s) : pr ((j, s) :: π) (va_up (va_up c 18 (upd (c 18) j a)) 19 (upd (c 19) j b)) := by
  intro i hi
  have e18 : va_up (va_up c 18 (upd (c 18) j a)) 19 (upd (c 19) j b) 18 = upd (c 18) j a := rfl
  have e19 : va_up (va_up c 18 (upd (c 18) j a)) 19 (upd (c 19) j b) 19 = upd (c 19) j b := rfl
  rw [e18, e19]
  simp only [gm_at, List.length_cons]
  by_cases hij : j = i
  · subst hij
    rw [if_pos rfl, ud_at, ud_at]
    refine ⟨fun h => by simp at h, fun d s0 h => ?_⟩
    simp only [Option.some.injEq, Prod.mk.injEq] at h
    obtain ⟨rfl, rfl⟩ := h
    exact ⟨by rw [ha]; congr 1, hb⟩
  · rw [if_neg hij, ud_ne (fun e => hij e.symm), ud_ne (fun e => hij e.symm)]
    refine ⟨fun h1 => (h i hi).1 (Option.map_eq_none_iff.mp h1), fun d s0 h1 => ?_⟩
    obtain ⟨⟨d1, s1⟩, h2, h3⟩ := Option.map_eq_some_iff.mp h1
    simp only [Prod.mk.injEq] at h3
    obtain ⟨rfl, rfl⟩ := h3
    have h4 := (h i hi).2 d1 s1 h2
    have h5 := gm_at_len h2
    exact ⟨by rw [h4.1]; congr 1; omega, h4.2⟩
theorem pr_pop {π : List (Nat × Int)} {c : Nat → Nat → Int32} {j : Nat} {s : Int} (h : pr ((j, s) :: π) c) (hj : gm_at π j = none) : pr π (va_up c 18 (upd (c 18) j (-1))) := by
  intro i hi
  have e18 : va_up c 18 (upd (c 18) j (-1)) 18 = upd (c 18) j (-1) := rfl
  have e19 : va_up c 18 (upd (c 18) j (-1)) 19 = c 19 := rfl
  rw [e18, e19]
  by_cases hij : i = j
  · subst hij
    rw [ud_at]
    exact ⟨fun _ => rfl, fun d s0 h1 => by rw [hj] at h1; cases h1⟩
  · rw [ud_ne hij]
    have hh := h i hi
    simp only [gm_at, if_neg (fun e => hij e.symm : ¬ j = i), List.length_cons] at hh
    refine ⟨fun h1 => hh.1 (by rw [h1]; rfl), fun d s0 h1 => ?_⟩
    have h2 := hh.2 (d + 1) s0 (by rw [h1]; rfl)
    exact ⟨by rw [h2.1]; congr 1; omega, h2.2⟩
theorem gm_mx_app (l : List Int) (a : Int) : gm_mx (l ++ [a]) = max (gm_mx l) (max a (-1000000)) := by
  induction l with
  | nil => simp only [List.nil_append, gm_mx]; omega
  | cons b l ih => simp only [List.cons_append, gm_mx, ih]; omega
theorem gm_mn_app (l : List Int) (a : Int) : gm_mn (l ++ [a]) = min (gm_mn l) (min a 1000000) := by
  induction l with
  | nil => simp only [List.nil_append, gm_mn]; omega
  | cons b l ih => simp only [List.cons_append, gm_mn, ih]; omega
theorem gm_take {α : Type} {β : Type} (l : List α) (f : α → β) (d : α) {i : Nat} (h : i < l.length) : (l.map f).take (i + 1) = (l.map f).take i ++ [f (l.getD i d)] := by
  rw [List.take_succ, List.getElem?_map, List.getElem?_eq_getElem h, List.getD_eq_getElem?_getD, List.getElem?_eq_getElem h]
  rfl
theorem gm_mx_lo : ∀ l : List Int, -1000000 ≤ gm_mx l
  | [] => Int.le_refl _
  | b :: l => by have := gm_mx_lo l; simp only [gm_mx]; omega
theorem gm_mn_hi : ∀ l : List Int, gm_mn l ≤ 1000000
  | [] => Int.le_refl _
  | b :: l => by have := gm_mn_hi l; simp only [gm_mn]; omega
theorem gm_mx_part {l : List Int} {i : Nat} : gm_mx (l.take i) ≤ gm_mx l := by
  rcases gm_mx_or (l.take i) with h | h
  · rw [h]
    exact gm_mx_lo l
  · exact gm_mx_mem (List.mem_of_mem_take h)
theorem gm_mn_part {l : List Int} {i : Nat} : gm_mn l ≤ gm_mn (l.take i) := by
  rcases gm_mn_or (l.take i) with h | h
  · rw [h]
    exact gm_mn_hi l
  · exact gm_mn_mem (List.mem_of_mem_take h)
end
section
theorem lp_eq {d : Nat} {x : Int32} (h1 : 1 ≤ d) (h7 : d ≤ 7) (hx1 : -(9 * (d : Int)) ≤ x.toInt) (hx2 : x.toInt ≤ 9 * (d : Int)) : ((420 : Int32) / (nI d) * x).toInt = ((420 / d : Nat) : Int) * x.toInt := by
  have e : (420 : Int32) / nI d = nI (420 / d) := pk_div (a := 420) (by omega) (by omega) (by omega)
  have e2 : (nI (420 / d)).toInt = ((420 / d : Nat) : Int) := nI_toInt (by have := Nat.div_le_self 420 d; omega)
  have hb := gm_leaf_bd h1 h7 hx1 hx2
  rw [e, i_mul (by rw [e2]; omega) (by rw [e2]; omega), e2]
/-! ===== CreditGame$Values: what only reads; forget ===== -/
theorem iw_X3_partsOf_X3 : ∀ w ∈ wsX30, w ∈ wsX3_partsOf := by decide +kernel
set_option maxHeartbeats 4000000 in
set_option maxRecDepth 100000 in
/--  -/
theorem ct_partsOf (l : Launch) (en : en_T) (ad : Nat → Nat) (c : Nat → Nat → Int32) {G : gr_T} (hg : gi G c) (j : Nat) (hj : j < 7) : Met l yX3_partsOf wsX3_partsOf (rm_ 3 0 0) (ct_Pc en [.ref (ad 2), .int (nI j)] (fun H => va_P en.1 vwCl (xw en ad c) H)) (ro_Qi (fun r => r = if j < gr_n G then c 13 j else 0)) 0 0 (fun _ => False) := by
  refine Met.ofW (cc := cX3_partsOf) (maxL := 2) (ret := (some .int)) (by decide) rfl ?_
  intro p e s m args below meth co s₁ B hml hv
  obtain ⟨rfl, hE, hP⟩ := hv
  have hx := B.exec
  have hb := B.bytes
  have hr := B.returns
  have hts := atoms_spec (ws := wsX3_partsOf) B.pre
  have hown : s.vm.findClass RX3 = some m.cls := findClass_of_methodNamed B.named
  have hlocks := B.notSynchronized
  have hl := lv_entry ([.ref (ad 2), .int (nI j)]) (n := 2) (Nat.le_of_ble_eq_true rfl)
  rw [lg_entry_eq]
  generalize (lg_sl ([.ref (ad 2), .int (nI j)]) ++ List.replicate (2 - (lg_sl ([.ref (ad 2), .int (nI j)])).length) Slot.unset).toArray = ls at hl ⊢
  have hl : lv_has ls 2 [(0, .ref (ad 2)), (1, .int (nI j))] := hl
  refine lv_aload_n hx hb dX3_partsOf_0 rfl (lv_at hl 0 rfl) ?_
  refine va_get (D := en.1) (ci := 3) (v := .ref (ad 1)) (C := RX3) (T := TX3) (N := 4) hx hb hts iw_X3_partsOf_X3 hown hE.1 hP 2 rfl rfl 0 (by decide) (hts (.fieldLink RX3 26 "CreditGame$Values" "graph" "LCreditGame$Graph;") (by decide +kernel)) (fun _ h9 => h9) rfl dX3_partsOf_1 ?_
  refine lv_iload_n hx hb dX3_partsOf_4 rfl (lv_at hl 1 rfl) ?_
  refine ro_calli (va_runVN (As := [.int (nI j)]) (rest := []) ⟨hx, hb, hml, hown, hts⟩ (ct_hasVertex l en ad c hg (nI j)) ⟨va_cnB 1 hts gX3_partsOf_X1_hasVertex_n34 rfl rfl rfl (hE.2 _ (List.mem_of_getElem? (i := 37) rfl)) (hts (.initialized RX1) (by decide +kernel)) (by decide +kernel) ⟨Nat.le_of_ble_eq_true rfl, Nat.le_of_ble_eq_true rfl⟩, hts (.instanceMethod yX1_hasVertex) (by decide +kernel), hts (.selects RX1 yX1_hasVertex yX1_hasVertex) (by decide +kernel)⟩ (ct_preV hE (va_recv hE.1 hP (ci := 1) (q0 := 1) rfl rfl) hP) rfl rfl hl.1 rfl (lv_room (Nat.le_of_ble_eq_true rfl)) dX3_partsOf_5 ⟨Nat.le_of_ble_eq_true rfl, Nat.le_of_ble_eq_true rfl⟩) (fun r5 w5 => ?_)
  refine lv_if_eq (tgt := 20) hx hb dX3_partsOf_8 (by decide) (fun b8 => ?_) (fun b8 => ?_)
  · skip
    refine lv_iconst (v := 0) hx hb dX3_partsOf_20 (by decide) ?_
    exact W.iret (v := 0) hx hb hr (fun t ht hW => ⟨_, rfl, (by first | exact (if_neg (hv_nlt w5 b8)).symm | exact (if_pos (hv_lt hg.n7 (by omega) w5 b8)).symm), ht⟩) (fun q h => by cases h) dX3_partsOf_21
  · skip
    refine lv_aload_n hx hb dX3_partsOf_11 rfl (lv_at hl 0 rfl) ?_
    refine va_get (D := en.1) (ci := 3) (v := .ref (ad 13)) (C := RX3) (T := TX3) (N := 4) hx hb hts iw_X3_partsOf_X3 hown hE.1 hP 2 rfl rfl 3 (by decide) (hts (.fieldLink RX3 22 "CreditGame$Values" "parts" "[I") (by decide +kernel)) (fun _ h9 => h9) rfl dX3_partsOf_12 ?_
    refine lv_iload_n hx hb dX3_partsOf_15 rfl (lv_at hl 1 rfl) ?_
    refine xr_ild hx hb hE hP 13 (by decide) j rfl (show _ < 7 by omega) dX3_partsOf_16 ?_
    refine lv_goto (tgt := 21) hx hb dX3_partsOf_17 (by decide) ?_
    exact W.iret (v := (c 13 j)) hx hb hr (fun t ht hW => ⟨_, rfl, (by first | exact (if_neg (hv_nlt w5 b8)).symm | exact (if_pos (hv_lt hg.n7 (by omega) w5 b8)).symm), ht⟩) (fun q h => by cases h) dX3_partsOf_21
set_option maxHeartbeats 4000000 in
set_option maxRecDepth 100000 in
/--  -/
theorem ct_order (l : Launch) (en : en_T) (ad : Nat → Nat) (c : Nat → Nat → Int32) {G : gr_T} (hg : gi G c) (j : Nat) (hj : j < 7) (x y : Int32) : Met l yX3_order wsX3_order (rm_ 4 0 0) (ct_Pc en [.ref (ad 2), .int (nI j), .int x, .int y] (fun H => va_P en.1 vwCl (xw en ad c) H)) (ro_Qi (fun r => r = if (if j < gr_n G then c 13 j else 0) * y < x * 420 then -1 else if (if j < gr_n G then c 13 j else 0) * y = x * 420 then 0 else 1)) 0 0 (fun _ => False) := by
  refine Met.ofW (cc := cX3_order) (maxL := 4) (ret := (some .int)) (by decide) rfl ?_
  intro p e s m args below meth co s₁ B hml hv
  obtain ⟨rfl, hE, hP⟩ := hv
  have hx := B.exec
  have hb := B.bytes
  have hr := B.returns
  have hts := atoms_spec (ws := wsX3_order) B.pre
  have hown : s.vm.findClass RX3 = some m.cls := findClass_of_methodNamed B.named
  have hlocks := B.notSynchronized
  have hl := lv_entry ([.ref (ad 2), .int (nI j), .int x, .int y]) (n := 4) (Nat.le_of_ble_eq_true rfl)
  rw [lg_entry_eq]
  generalize (lg_sl ([.ref (ad 2), .int (nI j), .int x, .int y]) ++ List.replicate (4 - (lg_sl ([.ref (ad 2), .int (nI j), .int x, .int y])).length) Slot.unset).toArray = ls at hl ⊢
  have hl : lv_has ls 4 [(0, .ref (ad 2)), (1, .int (nI j)), (2, .int x), (3, .int y)] := hl
  refine lv_aload_n hx hb dX3_order_0 rfl (lv_at hl 0 rfl) ?_
  refine lv_iload_n hx hb dX3_order_1 rfl (lv_at hl 1 rfl) ?_
  refine ro_calli (va_runV (As := [.int (nI j)]) (rest := []) ⟨hx, hb, hml, hown, hts⟩ (ct_partsOf l en ad c hg j hj) (cwV 1 hts gX3_order_X3_partsOf rfl rfl rfl (by decide +kernel) ⟨Nat.le_of_ble_eq_true rfl, Nat.le_of_ble_eq_true rfl⟩) (ct_preV hE (va_recv hE.1 hP (ci := 3) (q0 := 2) rfl rfl) hP) rfl rfl hl.1 rfl (lv_room (Nat.le_of_ble_eq_true rfl)) dX3_order_2 ⟨Nat.le_of_ble_eq_true rfl, Nat.le_of_ble_eq_true rfl⟩) (fun r2 w2 => ?_)
  obtain rfl : r2 = (if j < gr_n G then c 13 j else 0) := w2
  refine lv_iload_n hx hb dX3_order_5 rfl (lv_at hl 3 rfl) ?_
  refine lv_imul hx hb dX3_order_6 ?_
  refine lv_iload_n hx hb dX3_order_7 rfl (lv_at hl 2 rfl) ?_
  refine lv_sipush (v := 420) hx hb dX3_order_8 (by decide) ?_
  refine lv_imul hx hb dX3_order_11 ?_
  refine ro_calli (va_runS (As := [.int ((if j < gr_n G then c 13 j else 0) * y), .int (x * 420)]) (rest := []) ⟨hx, hb, hml, hown, hts⟩ (ct_compare l en ad c _ _) (va_cwS 2 hts gX3_order_J6_compare_7cf53 rfl rfl rfl (by decide +kernel) ⟨Nat.le_of_ble_eq_true rfl, Nat.le_of_ble_eq_true rfl⟩) (ct_preS hE trivial) rfl rfl hl.1 rfl (lv_room (Nat.le_of_ble_eq_true rfl)) dX3_order_12 ⟨Nat.le_of_ble_eq_true rfl, Nat.le_of_ble_eq_true rfl⟩) (fun r12 w12 => ?_)
  exact W.iret (v := r12) hx hb hr (fun t ht hW => ⟨_, rfl, w12, ht⟩) (fun q h => by cases h) dX3_order_15
set_option maxHeartbeats 4000000 in
set_option maxRecDepth 100000 in
/--  -/
theorem ct_loopParts (l : Launch) (en : en_T) (ad : Nat → Nat) (c : Nat → Nat → Int32) (d : Nat) (h1 : 1 ≤ d) (h7 : d ≤ 7) (x : Int32) (hx1 : -(9 * (d : Int)) ≤ x.toInt) (hx2 : x.toInt ≤ 9 * (d : Int)) : Met l yX3_loopParts wsX3_loopParts (rm_ 1 0 0) (ct_Pc en [.int (nI d), .int x] (fun H => True)) (ro_Qi (fun r => r.toInt = ((420 / d : Nat) : Int) * x.toInt)) 0 0 (fun _ => False) := by
  refine Met.ofW (cc := cX3_loopParts) (maxL := 2) (ret := (some .int)) (by decide) rfl ?_
  intro p e s m args below meth co s₁ B hml hv
  obtain ⟨rfl, hE, hP⟩ := hv
  have hx := B.exec
  have hb := B.bytes
  have hr := B.returns
  have hts := atoms_spec (ws := wsX3_loopParts) B.pre
  have hown : s.vm.findClass RX3 = some m.cls := findClass_of_methodNamed B.named
  have hlocks := B.notSynchronized
  have hl := lv_entry ([.int (nI d), .int x]) (n := 2) (Nat.le_of_ble_eq_true rfl)
  rw [lg_entry_eq]
  generalize (lg_sl ([.int (nI d), .int x]) ++ List.replicate (2 - (lg_sl ([.int (nI d), .int x])).length) Slot.unset).toArray = ls at hl ⊢
  have hl : lv_has ls 2 [(0, .int (nI d)), (1, .int x)] := hl
  refine lv_iload_n hx hb dX3_loopParts_0 rfl (lv_at hl 0 rfl) ?_
  refine lv_if_le (tgt := 14) hx hb dX3_loopParts_1 (by decide) (fun b1 => absurd b1 (nI_nle (by omega) (by omega))) (fun b1 => ?_)
  refine lv_sipush (v := 420) hx hb dX3_loopParts_4 (by decide) ?_
  refine lv_iload_n hx hb dX3_loopParts_7 rfl (lv_at hl 0 rfl) ?_
  refine lv_idiv hx hb dX3_loopParts_8 (nI_ne0 (by omega) (by omega)) ?_
  refine lv_iload_n hx hb dX3_loopParts_9 rfl (lv_at hl 1 rfl) ?_
  refine lv_imul hx hb dX3_loopParts_10 ?_
  refine lv_goto (tgt := 15) hx hb dX3_loopParts_11 (by decide) ?_
  exact W.iret (v := ((420 / (nI d)) * x)) hx hb hr (fun t ht hW => ⟨_, rfl, (lp_eq h1 h7 hx1 hx2), ht⟩) (fun q h => by cases h) dX3_loopParts_15
theorem iw_X3_forget_X3 : ∀ w ∈ wsX30, w ∈ wsX3_forget := by decide +kernel
set_option maxHeartbeats 4000000 in
set_option maxRecDepth 100000 in
/-- no value is known -/
theorem ct_forget (l : Launch) (en : en_T) (ad : Nat → Nat) (c : Nat → Nat → Int32) (hI : xw_I ad) (sz : Nat)  : Met l yX3_forget wsX3_forget (rm_ 1 0 0) (ct_Pc en [.ref (ad 2)] (fun H => H.size = sz ∧ va_P en.1 vwCl (xw en ad c) H)) (va_Qv (fun c' => kx [12] c c' ∧ ∀ j, j < 7 → c' 12 j = 0) (fun c' t => va_P en.1 vwCl (xw en ad c') t.heap) (xw_A ad sz)) 0 0 (xw_A ad sz) := by
  refine Met.ofW (cc := cX3_forget) (maxL := 2) (ret := none) (by decide) rfl ?_
  intro p e s m args below meth co s₁ B hml hv
  obtain ⟨rfl, hE, hsz, hP⟩ := hv
  subst hsz
  have hx := B.exec
  have hb := B.bytes
  have hr := B.returns
  have hts := atoms_spec (ws := wsX3_forget) B.pre
  have hown : s.vm.findClass RX3 = some m.cls := findClass_of_methodNamed B.named
  have hlocks := B.notSynchronized
  have hS : va_S (xw_A ad s.heap.size) s.heap s.heap [] := va_S.rf
  have hl := lv_entry ([.ref (ad 2)]) (n := 2) (Nat.le_of_ble_eq_true rfl)
  rw [lg_entry_eq]
  generalize (lg_sl ([.ref (ad 2)]) ++ List.replicate (2 - (lg_sl ([.ref (ad 2)])).length) Slot.unset).toArray = ls at hl ⊢
  have hl : lv_has ls 2 [(0, .ref (ad 2))] := hl
  refine lv_iconst (v := (nI 0)) hx hb dX3_forget_0 (by decide) ?_
  refine lv_istore_n (lv' := [(1, .int (nI 0)), (0, .ref (ad 2))]) hx hb dX3_forget_1 rfl hl (by decide) rfl (fun ls hl => ?_)
  have key2 : ∀ (n_ : Nat) (i : Nat) (c_ : Nat → Nat → Int32) (H : Heap) (locs : List Loc) (ls : Array Slot), i ≤ 7 → 7 + 1 ≤ i + n_ → kx [12] c c_ → (∀ j, j < i → c_ 12 j = 0) → va_P en.1 vwCl (xw en ad c_) H → va_S (xw_A ad s.heap.size) s.heap H locs → lv_has ls 2 [(0, .ref (ad 2)), (1, .int (nI i))] → W p l e (headSpec wsX3_forget (rm_ 1 0 0)).room s m ([.ref (ad 2)] : List Value).toArray below meth co H locs 0 0 (MQ below (va_Qv (fun c' => kx [12] c c' ∧ ∀ j, j < 7 → c' 12 j = 0) (fun c' t => va_P en.1 vwCl (xw en ad c') t.heap) (xw_A ad s.heap.size)) ([.ref (ad 2)] : List Value).toArray s 0 0 (xw_A ad s.heap.size)) (F0 m 2 ls []) := by
    intro n_
    induction n_ with
    | zero =>
      intro i c_ H locs ls hi hin hc hf hP hS hl
      exact absurd hin (by omega)
    | succ n_ ih2 =>
      intro i c_ H locs ls hi hin hc hf hP hS hl
      refine lv_iload_n hx hb dX3_forget_2 rfl (lv_at hl 1 rfl) ?_
      refine lv_bipush (v := (nI 7)) hx hb dX3_forget_3 (by decide) ?_
      refine lv_icmp_ge (tgt := 21) hx hb dX3_forget_5 (by decide) (fun b5 => ?_) (fun b5 => ?_)
      · skip
        have hin2 : i = 7 := by
          rcases Nat.lt_or_ge i 7 with q | q
          · exact absurd b5 (nI_ge q (by omega))
          · omega
        subst hin2
        exact W.vret hx hb hr (fun t ht hW => ⟨⟨c_, rfl, ⟨hc, hf⟩, by show va_P _ _ _ t.heap; rw [ht]; exact hP⟩, hS.F ht⟩) hS.2.2 dX3_forget_21
      · skip
        have hlt : i < 7 := by
          rcases Nat.lt_or_ge i 7 with q | q
          · exact q
          · exact absurd (nI_le q (by omega)) b5
        refine lv_aload_n hx hb dX3_forget_8 rfl (lv_at hl 0 rfl) ?_
        refine va_get (D := en.1) (ci := 3) (v := .ref (ad 12)) (C := RX3) (T := TX3) (N := 4) hx hb hts iw_X3_forget_X3 hown hE.1 hP 2 rfl rfl 2 (by decide) (hts (.fieldLink RX3 18 "CreditGame$Values" "known" "[Z") (by decide +kernel)) (fun _ h9 => h9) rfl dX3_forget_9 ?_
        refine lv_iload_n hx hb dX3_forget_12 rfl (lv_at hl 1 rfl) ?_
        refine lv_iconst (v := 0) hx hb dX3_forget_13 (by decide) ?_
        refine xr_zst hx hb hE hP hI hS i rfl (by omega) dX3_forget_14 (fun H locs hP hS => ?_)
        obtain ⟨c14, ec14⟩ : ∃ z : Nat → Nat → Int32, z = va_up c_ 12 (upd (c_ 12) i (vp_nar .boolean 0)) := ⟨_, rfl⟩
        rw [← ec14] at hP
        refine lv_iinc (v := (nI (i + 1))) (lv' := [(1, .int (nI (i + 1))), (0, .ref (ad 2))]) hx hb dX3_forget_15 hl (k := 1) rfl (nI_1 _) (by decide) rfl (fun ls hl => ?_)
        refine lv_goto (tgt := 2) hx hb dX3_forget_18 (by decide) ?_
        exact ih2 (i + 1) c14 _ _ _ (by omega) (by omega) (by rw [ec14]; exact hc.tr (kx.up (by decide))) (fun j h => by rw [ec14, up_at]; by_cases hj : j = i; rw [hj, ud_at]; rfl; rw [ud_ne hj]; exact hf j (by omega)) hP hS (lv_sub hl [1, 0] rfl)
  exact key2 (7 + 1) 0 c _ _ _ (by omega) (by omega) kx.rf (fun j h => absurd h (Nat.not_lt_zero j)) hP hS (lv_sub hl [1, 0] rfl)
end
section
/-! ===== CreditGame$Values: the search ===== -/
theorem ab_rf {lo hi P : Int} : ab lo hi P P := ⟨id, id, fun _ _ => rfl⟩
theorem vl_leaf {G : gr_T} {k j d : Nat} {π : List (Nat × Int)} {sm s0 : Int} (h : gm_at π j = some (d, s0)) : vl_p G (k + 1) π j sm = ((420 / d : Nat) : Int) * (sm - s0) := by
  simp only [vl_p, gm_pay, h]
theorem gr_ow_t {G : gr_T} {j : Nat} (hj : j < gr_n G) (h : gr_own G j = 0) : gr_ow G j = true := by
  simp [gr_ow, gp_ow, hj, h]
theorem gr_ow_f {G : gr_T} {j : Nat} (h : ¬ gr_own G j = 0) : gr_ow G j = false := by
  simp [gr_ow, gp_ow, h]
/-- what each edge from j brings -/
def vl_l (G : gr_T) (k : Nat) (π : List (Nat × Int)) (j : Nat) (sm : Int) : List Int := (gr_adj G j).map (fun x => vl_p G k ((j, sm) :: π) (gr_tgt G x) (sm + gr_w G x))
theorem vl_mx {G : gr_T} {k j : Nat} {π : List (Nat × Int)} {sm : Int} (h : gm_at π j = none) (hj : j < gr_n G) (ho : gr_own G j = 0) : vl_p G (k + 1) π j sm = gm_mx (vl_l G k π j sm) := by
  simp only [vl_p, gm_pay, h, gr_ow_t hj ho, if_true]
  rfl
theorem vl_mn {G : gr_T} {k j : Nat} {π : List (Nat × Int)} {sm : Int} (h : gm_at π j = none) (ho : ¬ gr_own G j = 0) : vl_p G (k + 1) π j sm = gm_mn (vl_l G k π j sm) := by
  simp only [vl_p, gm_pay, h, gr_ow_f ho, Bool.false_eq_true, if_false]
  rfl
theorem ab_mx {lo hi mi P pay r pay1 lo1 : Int} (hl : lo < hi) (hp : pay < hi) (h : ab lo hi mi pay) (e1 : lo1 = max lo pay) (h2 : ab lo1 hi P r) (e2 : pay1 = max pay r) : ab lo hi (max mi P) pay1 := by
  obtain ⟨a1, a2, a3⟩ := h
  obtain ⟨b1, b2, b3⟩ := h2
  subst e1; subst e2
  by_cases c1 : mi ≤ lo <;> by_cases c2 : mi < hi <;> by_cases c3 : P ≤ max lo pay <;> by_cases c4 : P < hi <;> refine ⟨fun q => ?_, fun q => ?_, fun q q2 => ?_⟩ <;> omega
theorem ab_mn {lo hi mi P pay r pay1 hi1 : Int} (hl : lo < hi) (hp : lo < pay) (h : ab lo hi mi pay) (e1 : hi1 = min hi pay) (h2 : ab lo hi1 P r) (e2 : pay1 = min pay r) : ab lo hi (min mi P) pay1 := by
  obtain ⟨a1, a2, a3⟩ := h
  obtain ⟨b1, b2, b3⟩ := h2
  subst e1; subst e2
  by_cases c1 : lo < mi <;> by_cases c2 : mi < hi <;> by_cases c3 : P < min hi pay <;> by_cases c4 : lo < P <;> refine ⟨fun q => ?_, fun q => ?_, fun q q2 => ?_⟩ <;> omega
theorem ab_mx_end {lo hi mi P pay : Int} (hl : lo < hi) (hp : hi ≤ pay) (h : ab lo hi mi pay) (hm : mi ≤ P) : ab lo hi P pay := by
  obtain ⟨a1, a2, a3⟩ := h
  by_cases c1 : mi ≤ lo <;> by_cases c2 : mi < hi <;> refine ⟨fun q => ?_, fun q => ?_, fun q q2 => ?_⟩ <;> omega
theorem ab_mn_end {lo hi mi P pay : Int} (hl : lo < hi) (hp : pay ≤ lo) (h : ab lo hi mi pay) (hm : P ≤ mi) : ab lo hi P pay := by
  obtain ⟨a1, a2, a3⟩ := h
  by_cases c1 : lo < mi <;> by_cases c2 : mi < hi <;> refine ⟨fun q => ?_, fun q => ?_, fun q q2 => ?_⟩ <;> omega
theorem vl_bd {G : gr_T} (hg : gf_ok G) (hc : gr_cpl G) {k j : Nat} {π : List (Nat × Int)} {sm : Int} (hk : 8 ≤ k + π.length) (hok : gm_ok (gr_n G) π) (hj : j < gr_n G) (hne : gm_near π sm) : -3780 ≤ vl_p G k π j sm ∧ vl_p G k π j sm ≤ 3780 := gm_pay_bd hg.1 hc.2 (gr_tgts hg) (gr_ws hg) hk hok hj hne
theorem vl_mx_next {G : gr_T} (hg : gf_ok G) (hc : gr_cpl G) {k j i : Nat} {π : List (Nat × Int)} {sm : Int} (hk : 8 ≤ k + (π.length + 1)) (hok : gm_ok (gr_n G) ((j, sm) :: π)) (hj : j < gr_n G) (hne : gm_near π sm) (hi : i < (gr_adj G j).length) : gm_mx ((vl_l G k π j sm).take (i + 1)) = max (gm_mx ((vl_l G k π j sm).take i)) (vl_p G k ((j, sm) :: π) (gr_tgt G ((gr_adj G j).getD i 0)) (sm + gr_w G ((gr_adj G j).getD i 0))) := by
  have hm := gr_adj_at hg hj hi
  have hb := vl_bd hg hc (k := k) (π := (j, sm) :: π) (sm := sm + gr_w G ((gr_adj G j).getD i 0)) (by simp only [List.length_cons]; omega) hok (gr_tgts hg j hj _ hm) (gm_near_push hne (gr_ws hg j hj _ hm).1 (gr_ws hg j hj _ hm).2)
  unfold vl_l
  rw [gm_take _ _ 0 hi, gm_mx_app]
  omega
theorem vl_mn_next {G : gr_T} (hg : gf_ok G) (hc : gr_cpl G) {k j i : Nat} {π : List (Nat × Int)} {sm : Int} (hk : 8 ≤ k + (π.length + 1)) (hok : gm_ok (gr_n G) ((j, sm) :: π)) (hj : j < gr_n G) (hne : gm_near π sm) (hi : i < (gr_adj G j).length) : gm_mn ((vl_l G k π j sm).take (i + 1)) = min (gm_mn ((vl_l G k π j sm).take i)) (vl_p G k ((j, sm) :: π) (gr_tgt G ((gr_adj G j).getD i 0)) (sm + gr_w G ((gr_adj G j).getD i 0))) := by
  have hm := gr_adj_at hg hj hi
  have hb := vl_bd hg hc (k := k) (π := (j, sm) :: π) (sm := sm + gr_w G ((gr_adj G j).getD i 0)) (by simp only [List.length_cons]; omega) hok (gr_tgts hg j hj _ hm) (gm_near_push hne (gr_ws hg j hj _ hm).1 (gr_ws hg j hj _ hm).2)
  unfold vl_l
  rw [gm_take _ _ 0 hi, gm_mn_app]
  omega
theorem vl_len (G : gr_T) (k : Nat) (π : List (Nat × Int)) (j : Nat) (sm : Int) : (vl_l G k π j sm).length = (gr_adj G j).length := by simp [vl_l]
theorem kx_12 {S : List Nat} (h : S = [18, 19]) : ∀ k ∈ S, 12 ≤ k ∧ k ≤ 20 := by subst h; decide
def pa_C (l : Launch) (en : en_T) (ad : Nat → Nat) (k : Nat) : Prop := ∀ (c : Nat → Nat → Int32) (sz : Nat) {G : gr_T} (hg : gi G c) (hc : gr_cpl G) (π : List (Nat × Int)) (j : Nat) (sm : Int) (si lo hi : Int32) (hpr : pr π c) (hok : gm_ok (gr_n G) π) (hk : 8 ≤ k + π.length) (hj : j < gr_n G) (hne : gm_near π sm) (hs : si.toInt = sm) (hb1 : -(9 * (π.length : Int)) ≤ sm) (hb2 : sm ≤ 9 * (π.length : Int)) (hlh : lo.toInt < hi.toInt) (hl1 : -1000000 ≤ lo.toInt) (hh1 : hi.toInt ≤ 1000000), Met l yX3_playAt wsX3_playAt (rm_ (2 * k + 5) 0 0) (ct_Pc en [.ref (ad 2), .int (nI j), .int (nI π.length), .int si, .int lo, .int hi] (fun H => H.size = sz ∧ va_P en.1 vwCl (xw en ad c) H)) (va_Qi (fun r c' => (-1000000 ≤ r.toInt ∧ r.toInt ≤ 1000000) ∧ ab lo.toInt hi.toInt (vl_p G k π j sm) r.toInt ∧ kx [18, 19] c c' ∧ pr π c') (fun c' t => va_P en.1 vwCl (xw en ad c') t.heap) (xw_A ad sz)) 0 0 (xw_A ad sz)
def gp_C (l : Launch) (en : en_T) (ad : Nat → Nat) (k : Nat) : Prop := ∀ (c : Nat → Nat → Int32) (sz : Nat) {G : gr_T} (hg : gi G c) (hc : gr_cpl G) (π : List (Nat × Int)) (j : Nat) (sm : Int) (si lo hi : Int32) (hpr : pr ((j, sm) :: π) c) (hok : gm_ok (gr_n G) ((j, sm) :: π)) (hk : 8 ≤ k + (π.length + 1)) (hj : j < gr_n G) (hne : gm_near π sm) (hs : si.toInt = sm) (hb1 : -(9 * (π.length : Int)) ≤ sm) (hb2 : sm ≤ 9 * (π.length : Int)) (hlh : lo.toInt < hi.toInt) (hl1 : -1000000 ≤ lo.toInt) (hh1 : hi.toInt ≤ 1000000), Met l yX3_greatestPay wsX3_greatestPay (rm_ (2 * k + 6) 0 0) (ct_Pc en [.ref (ad 2), .int (nI j), .int (nI π.length), .int si, .int lo, .int hi] (fun H => H.size = sz ∧ va_P en.1 vwCl (xw en ad c) H)) (va_Qi (fun r c' => (-1000000 ≤ r.toInt ∧ r.toInt ≤ 1000000) ∧ ab lo.toInt hi.toInt (gm_mx (vl_l G k π j sm)) r.toInt ∧ kx [18, 19] c c' ∧ pr ((j, sm) :: π) c') (fun c' t => va_P en.1 vwCl (xw en ad c') t.heap) (xw_A ad sz)) 0 0 (xw_A ad sz)
def lp_C (l : Launch) (en : en_T) (ad : Nat → Nat) (k : Nat) : Prop := ∀ (c : Nat → Nat → Int32) (sz : Nat) {G : gr_T} (hg : gi G c) (hc : gr_cpl G) (π : List (Nat × Int)) (j : Nat) (sm : Int) (si lo hi : Int32) (hpr : pr ((j, sm) :: π) c) (hok : gm_ok (gr_n G) ((j, sm) :: π)) (hk : 8 ≤ k + (π.length + 1)) (hj : j < gr_n G) (hne : gm_near π sm) (hs : si.toInt = sm) (hb1 : -(9 * (π.length : Int)) ≤ sm) (hb2 : sm ≤ 9 * (π.length : Int)) (hlh : lo.toInt < hi.toInt) (hl1 : -1000000 ≤ lo.toInt) (hh1 : hi.toInt ≤ 1000000), Met l yX3_leastPay wsX3_leastPay (rm_ (2 * k + 6) 0 0) (ct_Pc en [.ref (ad 2), .int (nI j), .int (nI π.length), .int si, .int lo, .int hi] (fun H => H.size = sz ∧ va_P en.1 vwCl (xw en ad c) H)) (va_Qi (fun r c' => (-1000000 ≤ r.toInt ∧ r.toInt ≤ 1000000) ∧ ab lo.toInt hi.toInt (gm_mn (vl_l G k π j sm)) r.toInt ∧ kx [18, 19] c c' ∧ pr ((j, sm) :: π) c') (fun c' t => va_P en.1 vwCl (xw en ad c') t.heap) (xw_A ad sz)) 0 0 (xw_A ad sz)
theorem iw_X3_greatestPay_X3 : ∀ w ∈ wsX30, w ∈ wsX3_greatestPay := by decide +kernel
set_option maxHeartbeats 4000000 in
set_option maxRecDepth 100000 in
/--  -/
theorem ct_greatestPay (l : Launch) (en : en_T) (ad : Nat → Nat) (c : Nat → Nat → Int32) (hI : xw_I ad) (sz : Nat) (k : Nat) (pa : pa_C l en ad k) {G : gr_T} (hg : gi G c) (hc : gr_cpl G) (π : List (Nat × Int)) (j : Nat) (sm : Int) (si lo hi : Int32) (hpr : pr ((j, sm) :: π) c) (hok : gm_ok (gr_n G) ((j, sm) :: π)) (hk : 8 ≤ k + (π.length + 1)) (hj : j < gr_n G) (hne : gm_near π sm) (hs : si.toInt = sm) (hb1 : -(9 * (π.length : Int)) ≤ sm) (hb2 : sm ≤ 9 * (π.length : Int)) (hlh : lo.toInt < hi.toInt) (hl1 : -1000000 ≤ lo.toInt) (hh1 : hi.toInt ≤ 1000000) : Met l yX3_greatestPay wsX3_greatestPay (rm_ (2 * k + 6) 0 0) (ct_Pc en [.ref (ad 2), .int (nI j), .int (nI π.length), .int si, .int lo, .int hi] (fun H => H.size = sz ∧ va_P en.1 vwCl (xw en ad c) H)) (va_Qi (fun r c' => (-1000000 ≤ r.toInt ∧ r.toInt ≤ 1000000) ∧ ab lo.toInt hi.toInt (gm_mx (vl_l G k π j sm)) r.toInt ∧ kx [18, 19] c c' ∧ pr ((j, sm) :: π) c') (fun c' t => va_P en.1 vwCl (xw en ad c') t.heap) (xw_A ad sz)) 0 0 (xw_A ad sz) := by
  refine Met.ofW (cc := cX3_greatestPay) (maxL := 11) (ret := (some .int)) (by decide) rfl ?_
  intro p e s m args below meth co s₁ B hml hv
  obtain ⟨rfl, hE, hsz, hP⟩ := hv
  subst hsz
  have hx := B.exec
  have hb := B.bytes
  have hr := B.returns
  have hts := atoms_spec (ws := wsX3_greatestPay) B.pre
  have hown : s.vm.findClass RX3 = some m.cls := findClass_of_methodNamed B.named
  have hlocks := B.notSynchronized
  have hS : va_S (xw_A ad s.heap.size) s.heap s.heap [] := va_S.rf
  have hl := lv_entry ([.ref (ad 2), .int (nI j), .int (nI π.length), .int si, .int lo, .int hi]) (n := 11) (Nat.le_of_ble_eq_true rfl)
  rw [lg_entry_eq]
  generalize (lg_sl ([.ref (ad 2), .int (nI j), .int (nI π.length), .int si, .int lo, .int hi]) ++ List.replicate (11 - (lg_sl ([.ref (ad 2), .int (nI j), .int (nI π.length), .int si, .int lo, .int hi])).length) Slot.unset).toArray = ls at hl ⊢
  have hl : lv_has ls 11 [(0, .ref (ad 2)), (1, .int (nI j)), (2, .int (nI π.length)), (3, .int si), (4, .int lo), (5, .int hi)] := hl
  have hadl := gr_adj_len hg.ok j
  refine lv_ldc (own := RX3) (v := (-1000000)) hx hb hown (hts (.constant RX3 43 (-1000000)) (by decide +kernel)) dX3_greatestPay_0 ?_
  refine lv_istore (lv' := [(6, .int (-1000000)), (0, .ref (ad 2)), (1, .int (nI j)), (2, .int (nI π.length)), (3, .int si), (4, .int lo), (5, .int hi)]) hx hb dX3_greatestPay_2 hl (by decide) rfl (fun ls hl => ?_)
  refine lv_aload_n hx hb dX3_greatestPay_4 rfl (lv_at hl 1 rfl) ?_
  refine va_get (D := en.1) (ci := 3) (v := .ref (ad 1)) (C := RX3) (T := TX3) (N := 4) hx hb hts iw_X3_greatestPay_X3 hown hE.1 hP 2 rfl rfl 0 (by decide) (hts (.fieldLink RX3 26 "CreditGame$Values" "graph" "LCreditGame$Graph;") (by decide +kernel)) (fun _ h9 => h9) rfl dX3_greatestPay_5 ?_
  refine lv_iload_n hx hb dX3_greatestPay_8 rfl (lv_at hl 2 rfl) ?_
  refine ro_calli (va_runVN (As := [.int (nI j)]) (rest := []) ⟨hx, hb, hml, hown, hts⟩ (ct_waysFrom l en ad c hg j (by have := hg.n7; omega)) ⟨va_cnB 1 hts gX3_greatestPay_X1_waysFrom_n90 rfl rfl rfl (hE.2 _ (List.mem_of_getElem? (i := 45) rfl)) (hts (.initialized RX1) (by decide +kernel)) (by decide +kernel) ⟨by show 2 + 1 ≤ 2 * k + 6; omega, by show 8 + (2 + 11) + 40 * (2) ≤ 40 * (2 * k + 6); omega⟩, hts (.instanceMethod yX1_waysFrom) (by decide +kernel), hts (.selects RX1 yX1_waysFrom yX1_waysFrom) (by decide +kernel)⟩ (ct_preV hE (va_recv hE.1 hP (ci := 1) (q0 := 1) rfl rfl) hP) rfl rfl hl.1 rfl (lv_room (Nat.le_of_ble_eq_true rfl)) dX3_greatestPay_9 ⟨Nat.zero_le _, Nat.zero_le _⟩) (fun r9 w9 => ?_)
  obtain rfl : r9 = nI (gr_adj G j).length := w9
  refine lv_istore (lv' := [(7, .int (nI (gr_adj G j).length)), (6, .int (-1000000)), (0, .ref (ad 2)), (1, .int (nI j)), (2, .int (nI π.length)), (3, .int si), (4, .int lo), (5, .int hi)]) hx hb dX3_greatestPay_12 hl (by decide) rfl (fun ls hl => ?_)
  refine lv_iconst (v := (nI 0)) hx hb dX3_greatestPay_14 (by decide) ?_
  refine lv_istore (lv' := [(8, .int (nI 0)), (7, .int (nI (gr_adj G j).length)), (6, .int (-1000000)), (0, .ref (ad 2)), (1, .int (nI j)), (2, .int (nI π.length)), (3, .int si), (4, .int lo), (5, .int hi)]) hx hb dX3_greatestPay_15 hl (by decide) rfl (fun ls hl => ?_)
  have key17 : ∀ (n_ : Nat) (i : Nat) (pay : Int32) (c_ : Nat → Nat → Int32) (H : Heap) (locs : List Loc) (ls : Array Slot), i ≤ (gr_adj G j).length → (gr_adj G j).length + 1 ≤ i + n_ → gi G c_ → kx [18, 19] c c_ → pr ((j, sm) :: π) c_ → (-1000000 ≤ pay.toInt ∧ pay.toInt ≤ 1000000) → ab lo.toInt hi.toInt (gm_mx ((vl_l G k π j sm).take i)) pay.toInt → va_P en.1 vwCl (xw en ad c_) H → va_S (xw_A ad s.heap.size) s.heap H locs → lv_has ls 11 [(0, .ref (ad 2)), (1, .int (nI j)), (2, .int (nI π.length)), (3, .int si), (4, .int lo), (5, .int hi), (6, .int pay), (7, .int (nI (gr_adj G j).length)), (8, .int (nI i))] → W p l e (headSpec wsX3_greatestPay (rm_ (2 * k + 6) 0 0)).room s m ([.ref (ad 2), .int (nI j), .int (nI π.length), .int si, .int lo, .int hi] : List Value).toArray below meth co H locs 0 0 (MQ below (va_Qi (fun r c' => (-1000000 ≤ r.toInt ∧ r.toInt ≤ 1000000) ∧ ab lo.toInt hi.toInt (gm_mx (vl_l G k π j sm)) r.toInt ∧ kx [18, 19] c c' ∧ pr ((j, sm) :: π) c') (fun c' t => va_P en.1 vwCl (xw en ad c') t.heap) (xw_A ad s.heap.size)) ([.ref (ad 2), .int (nI j), .int (nI π.length), .int si, .int lo, .int hi] : List Value).toArray s 0 0 (xw_A ad s.heap.size)) (F0 m 17 ls []) := by
    intro n_
    induction n_ with
    | zero =>
      intro i pay c_ H locs ls hi_ hin hg hkc hpr hpb hab hP hS hl
      exact absurd hin (by omega)
    | succ n_ ih17 =>
      intro i pay c_ H locs ls hi_ hin hg hkc hpr hpb hab hP hS hl
      have hadl := gr_adj_len hg.ok j
      refine lv_iload hx hb dX3_greatestPay_17 (lv_at hl 8 rfl) ?_
      refine lv_iload hx hb dX3_greatestPay_19 (lv_at hl 7 rfl) ?_
      refine lv_icmp_ge (tgt := 96) hx hb dX3_greatestPay_21 (by decide) (fun b21 => ?_) (fun b21 => ?_)
      · skip
        have hin2 : i = (gr_adj G j).length := by
          rcases Nat.lt_or_ge i (gr_adj G j).length with q | q
          · exact absurd b21 (nI_ge q (by omega))
          · omega
        subst hin2
        rw [← vl_len G k π j sm, List.take_length] at hab
        refine lv_iload hx hb dX3_greatestPay_96 (lv_at hl 6 rfl) ?_
        exact W.iret (v := pay) hx hb hr (fun t ht hW => ⟨⟨_, c_, rfl, (by first | exact ⟨hpb, hab, hkc, hpr⟩ | exact ⟨hpb, ab_mx_end hlh hpay hab gm_mx_part, hkc, hpr⟩), by show va_P _ _ _ t.heap; rw [ht]; exact hP⟩, hS.F ht⟩) hS.2.2 dX3_greatestPay_98
      · skip
        have hlt : i < (gr_adj G j).length := by
          rcases Nat.lt_or_ge i (gr_adj G j).length with q | q
          · exact q
          · exact absurd (nI_le q (by omega)) b21
        have hm := gr_adj_at hg.ok hj hlt
        obtain ⟨x, hx_⟩ : ∃ z, z = (gr_adj G j).getD i 0 := ⟨_, rfl⟩
        rw [← hx_] at hm
        have hxE := (gr_adj_mem hg.ok hj hm).1
        have hx24 : x < 24 := by have := hg.e24; omega
        refine lv_iload hx hb dX3_greatestPay_24 (lv_at hl 6 rfl) ?_
        refine lv_iload hx hb dX3_greatestPay_26 (lv_at hl 5 rfl) ?_
        refine lv_icmp_ge (tgt := 96) hx hb dX3_greatestPay_28 (by decide) (fun b28 => ?_) (fun b28 => ?_)
        · skip
          have hpay := i_le.mp b28
          refine lv_iload hx hb dX3_greatestPay_96 (lv_at hl 6 rfl) ?_
          exact W.iret (v := pay) hx hb hr (fun t ht hW => ⟨⟨_, c_, rfl, (by first | exact ⟨hpb, hab, hkc, hpr⟩ | exact ⟨hpb, ab_mx_end hlh hpay hab gm_mx_part, hkc, hpr⟩), by show va_P _ _ _ t.heap; rw [ht]; exact hP⟩, hS.F ht⟩) hS.2.2 dX3_greatestPay_98
        · skip
          have hpay : ¬ _ := fun q => b28 (i_le.mpr q)
          refine lv_aload_n hx hb dX3_greatestPay_31 rfl (lv_at hl 0 rfl) ?_
          refine va_get (D := en.1) (ci := 3) (v := .ref (ad 1)) (C := RX3) (T := TX3) (N := 4) hx hb hts iw_X3_greatestPay_X3 hown hE.1 hP 2 rfl rfl 0 (by decide) (hts (.fieldLink RX3 26 "CreditGame$Values" "graph" "LCreditGame$Graph;") (by decide +kernel)) (fun _ h9 => h9) rfl dX3_greatestPay_32 ?_
          refine lv_iload_n hx hb dX3_greatestPay_35 rfl (lv_at hl 1 rfl) ?_
          refine lv_iload hx hb dX3_greatestPay_36 (lv_at hl 8 rfl) ?_
          refine ro_calli (va_runVN (As := [.int (nI j), .int (nI i)]) (rest := []) ⟨hx, hb, hml, hown, hts⟩ (ct_wayFrom l en ad c_ hg j i hj hlt) ⟨va_cnB 2 hts gX3_greatestPay_X1_wayFrom_n93 rfl rfl rfl (hE.2 _ (List.mem_of_getElem? (i := 46) rfl)) (hts (.initialized RX1) (by decide +kernel)) (by decide +kernel) ⟨by show 2 + 1 ≤ 2 * k + 6; omega, by show 8 + (3 + 11) + 40 * (2) ≤ 40 * (2 * k + 6); omega⟩, hts (.instanceMethod yX1_wayFrom) (by decide +kernel), hts (.selects RX1 yX1_wayFrom yX1_wayFrom) (by decide +kernel)⟩ (ct_preV hE (va_recv hE.1 hP (ci := 1) (q0 := 1) rfl rfl) hP) rfl rfl hl.1 rfl (lv_room (Nat.le_of_ble_eq_true rfl)) dX3_greatestPay_38 ⟨Nat.zero_le _, Nat.zero_le _⟩) (fun r38 w38 => ?_)
          obtain rfl : r38 = (nI x) := (w38.trans (by rw [hx_]))
          refine lv_istore (lv' := [(9, .int (nI x)), (0, .ref (ad 2)), (1, .int (nI j)), (2, .int (nI π.length)), (3, .int si), (4, .int lo), (5, .int hi), (6, .int pay), (7, .int (nI (gr_adj G j).length)), (8, .int (nI i))]) hx hb dX3_greatestPay_41 hl (by decide) rfl (fun ls hl => ?_)
          refine lv_aload_n hx hb dX3_greatestPay_43 rfl (lv_at hl 1 rfl) ?_
          refine va_get (D := en.1) (ci := 3) (v := .ref (ad 1)) (C := RX3) (T := TX3) (N := 4) hx hb hts iw_X3_greatestPay_X3 hown hE.1 hP 2 rfl rfl 0 (by decide) (hts (.fieldLink RX3 26 "CreditGame$Values" "graph" "LCreditGame$Graph;") (by decide +kernel)) (fun _ h9 => h9) rfl dX3_greatestPay_44 ?_
          refine lv_iload hx hb dX3_greatestPay_47 (lv_at hl 0 rfl) ?_
          refine ro_calli (va_runVN (As := [.int (nI x)]) (rest := []) ⟨hx, hb, hml, hown, hts⟩ (ct_targetOf l en ad c_ hg x hx24) ⟨va_cnB 1 hts gX3_greatestPay_X1_targetOf_n96 rfl rfl rfl (hE.2 _ (List.mem_of_getElem? (i := 47) rfl)) (hts (.initialized RX1) (by decide +kernel)) (by decide +kernel) ⟨by show 1 + 1 ≤ 2 * k + 6; omega, by show 8 + (2 + 11) + 40 * (1) ≤ 40 * (2 * k + 6); omega⟩, hts (.instanceMethod yX1_targetOf) (by decide +kernel), hts (.selects RX1 yX1_targetOf yX1_targetOf) (by decide +kernel)⟩ (ct_preV hE (va_recv hE.1 hP (ci := 1) (q0 := 1) rfl rfl) hP) rfl rfl hl.1 rfl (lv_room (Nat.le_of_ble_eq_true rfl)) dX3_greatestPay_49 ⟨Nat.zero_le _, Nat.zero_le _⟩) (fun r49 w49 => ?_)
          obtain rfl : r49 = (nI (gr_tgt G x)) := (w49.trans (gr_tgt_lt hg.ok hxE).2)
          refine lv_istore (lv' := [(10, .int (nI (gr_tgt G x))), (9, .int (nI x)), (0, .ref (ad 2)), (1, .int (nI j)), (2, .int (nI π.length)), (3, .int si), (4, .int lo), (5, .int hi), (6, .int pay), (7, .int (nI (gr_adj G j).length)), (8, .int (nI i))]) hx hb dX3_greatestPay_52 hl (by decide) rfl (fun ls hl => ?_)
          refine lv_iload hx hb dX3_greatestPay_54 (lv_at hl 8 rfl) ?_
          refine lv_aload_n hx hb dX3_greatestPay_56 rfl (lv_at hl 2 rfl) ?_
          refine lv_iload hx hb dX3_greatestPay_57 (lv_at hl 0 rfl) ?_
          refine lv_iload_n hx hb dX3_greatestPay_59 rfl (lv_at hl 4 rfl) ?_
          refine lv_iconst (v := 1) hx hb dX3_greatestPay_60 (by decide) ?_
          refine lv_iadd hx hb dX3_greatestPay_61 ?_
          refine lv_topi (fun z_61 ez_61 => ?_)
          obtain rfl : z_61 = (nI (π.length + 1)) := (ez_61.trans (nI_1 _))
          refine lv_iload_n hx hb dX3_greatestPay_62 rfl (lv_at hl 5 rfl) ?_
          refine lv_aload_n hx hb dX3_greatestPay_63 rfl (lv_at hl 2 rfl) ?_
          refine va_get (D := en.1) (ci := 3) (v := .ref (ad 1)) (C := RX3) (T := TX3) (N := 4) hx hb hts iw_X3_greatestPay_X3 hown hE.1 hP 2 rfl rfl 0 (by decide) (hts (.fieldLink RX3 26 "CreditGame$Values" "graph" "LCreditGame$Graph;") (by decide +kernel)) (fun _ h9 => h9) rfl dX3_greatestPay_64 ?_
          refine lv_iload hx hb dX3_greatestPay_67 (lv_at hl 1 rfl) ?_
          refine ro_calli (va_runVN (As := [.int (nI x)]) (rest := [.int si, .int (nI (π.length + 1)), .int (nI (gr_tgt G x)), .ref (ad 2), .int pay]) ⟨hx, hb, hml, hown, hts⟩ (ct_weightOf l en ad c_ hg x hx24) ⟨va_cnB 1 hts gX3_greatestPay_X1_weightOf_n99 rfl rfl rfl (hE.2 _ (List.mem_of_getElem? (i := 48) rfl)) (hts (.initialized RX1) (by decide +kernel)) (by decide +kernel) ⟨by show 1 + 1 ≤ 2 * k + 6; omega, by show 8 + (2 + 11) + 40 * (1) ≤ 40 * (2 * k + 6); omega⟩, hts (.instanceMethod yX1_weightOf) (by decide +kernel), hts (.selects RX1 yX1_weightOf yX1_weightOf) (by decide +kernel)⟩ (ct_preV hE (va_recv hE.1 hP (ci := 1) (q0 := 1) rfl rfl) hP) rfl rfl hl.1 rfl (lv_room (Nat.le_of_ble_eq_true rfl)) dX3_greatestPay_69 ⟨Nat.zero_le _, Nat.zero_le _⟩) (fun r69 w69 => ?_)
          obtain rfl : r69 = (gr_wt G x) := w69
          refine lv_iadd hx hb dX3_greatestPay_72 ?_
          refine lv_topi (fun s1 hs1 => ?_)
          have hw9 := (hg.ok.ed x hxE).2.2
          have hs1i : s1.toInt = sm + gr_w G x := by
            rw [hs1, gr_w_eq hxE, i_add (by rw [hs]; have := gm_ok_len hok; have := hg.n7; simp only [List.length_cons] at *; omega) (by rw [hs]; have := gm_ok_len hok; have := hg.n7; simp only [List.length_cons] at *; omega), hs]
          rw [← gr_w_eq hxE] at hw9
          refine lv_iload hx hb dX3_greatestPay_73 (lv_at hl 6 rfl) ?_
          refine lv_iload hx hb dX3_greatestPay_75 (lv_at hl 8 rfl) ?_
          refine va_mmax hx hb (hml.trans hl.1.symm) (own := RX3) hown (hts (.methodLink RX3 102 Lib.Math.max.name) (by decide +kernel)) (hts (.static Lib.Math.max.name) (by decide +kernel)) (hts (.initialized "java/lang/Math") (by decide +kernel)) (hts (.code Lib.Math.max.name Lib.Math.max.code 2 (some .int)) (by decide +kernel)) (by show 1 ≤ 2 * k + 6; omega) (Nat.le_trans (Nat.le_of_ble_eq_true rfl : _ ≤ 40) (by show 40 ≤ 40 * (2 * k + 6); omega)) (Nat.zero_le _) (Nat.zero_le _) dX3_greatestPay_77 ?_
          refine lv_topi (fun lo1 hlo1 => ?_)
          refine lv_iload hx hb dX3_greatestPay_80 (lv_at hl 7 rfl) ?_
          refine xr_calli (va_runV (As := [.int (nI (gr_tgt G x)), .int (nI (π.length + 1)), .int s1, .int lo1, .int hi]) (rest := [.int pay]) ⟨hx, hb, hml, hown, hts⟩ (pa c_ _ hg hc ((j, sm) :: π) (gr_tgt G x) (sm + gr_w G x) s1 lo1 hi hpr hok (by simp only [List.length_cons]; omega) (gr_tgt_lt hg.ok hxE).1 (gm_near_push hne hw9.1 hw9.2) hs1i (by simp only [List.length_cons]; omega) (by simp only [List.length_cons]; omega) (by rw [hlo1, i_max]; omega) (by first | (rw [hlo1, i_max]; omega) | omega) (by first | (rw [hlo1, i_max]; omega) | omega)) (cwV 5 hts gX3_greatestPay_X3_playAt rfl rfl rfl (by decide +kernel) ⟨by show 2 * k + 5 + 1 ≤ 2 * k + 6; omega, by show 8 + (7 + 11) + 40 * (2 * k + 5) ≤ 40 * (2 * k + 6); omega⟩) (ct_preV hE (va_recv hE.1 hP (ci := 3) (q0 := 2) rfl rfl) ⟨rfl, hP⟩) rfl rfl hl.1 rfl (lv_room (Nat.le_of_ble_eq_true rfl)) dX3_greatestPay_82 ⟨Nat.zero_le _, Nat.zero_le _⟩) hS (fun r82 c82 H locs w82 hP hS => ?_)
          refine va_mmax hx hb (hml.trans hl.1.symm) (own := RX3) hown (hts (.methodLink RX3 102 Lib.Math.max.name) (by decide +kernel)) (hts (.static Lib.Math.max.name) (by decide +kernel)) (hts (.initialized "java/lang/Math") (by decide +kernel)) (hts (.code Lib.Math.max.name Lib.Math.max.code 2 (some .int)) (by decide +kernel)) (by show 1 ≤ 2 * k + 6; omega) (Nat.le_trans (Nat.le_of_ble_eq_true rfl : _ ≤ 40) (by show 40 ≤ 40 * (2 * k + 6); omega)) (Nat.zero_le _) (Nat.zero_le _) dX3_greatestPay_85 ?_
          refine lv_topi (fun pay1 hpay1 => ?_)
          refine lv_istore (lv' := [(6, .int pay1), (10, .int (nI (gr_tgt G x))), (9, .int (nI x)), (0, .ref (ad 2)), (1, .int (nI j)), (2, .int (nI π.length)), (3, .int si), (4, .int lo), (5, .int hi), (7, .int (nI (gr_adj G j).length)), (8, .int (nI i))]) hx hb dX3_greatestPay_88 hl (by decide) rfl (fun ls hl => ?_)
          refine lv_iinc (v := (nI (i + 1))) (lv' := [(8, .int (nI (i + 1))), (6, .int pay1), (10, .int (nI (gr_tgt G x))), (9, .int (nI x)), (0, .ref (ad 2)), (1, .int (nI j)), (2, .int (nI π.length)), (3, .int si), (4, .int lo), (5, .int hi), (7, .int (nI (gr_adj G j).length))]) hx hb dX3_greatestPay_90 hl (k := 10) rfl (nI_1 _) (by decide) rfl (fun ls hl => ?_)
          refine lv_goto (tgt := 17) hx hb dX3_greatestPay_93 (by decide) ?_
          exact ih17 (i + 1) pay1 c82 _ _ _ (by omega) (by omega) (hg.kx w82.2.2.1 (kx_12 rfl)) (hkc.tr w82.2.2.1) w82.2.2.2 (by rw [hpay1, i_max]; omega) (by rw [vl_mx_next hg.ok hc hk hok hj hne hlt, ← hx_]; exact ab_mx (lo1 := lo1.toInt) hlh (by omega) hab (by rw [hlo1, i_max]) w82.2.1 (by rw [hpay1, i_max])) hP hS (lv_sub hl [4, 5, 6, 7, 8, 9, 1, 10, 0] rfl)
  exact key17 ((gr_adj G j).length + 1) 0 (-1000000) c _ _ _ (Nat.zero_le _) (by omega) hg kx.rf hpr (by decide) (by rw [List.take_zero]; show ab _ _ ((-1000000)) ((-1000000) : Int32).toInt; rw [i_lo]; exact ab_rf) hP hS (lv_sub hl [3, 4, 5, 6, 7, 8, 2, 1, 0] rfl)
theorem iw_X3_leastPay_X3 : ∀ w ∈ wsX30, w ∈ wsX3_leastPay := by decide +kernel
set_option maxHeartbeats 4000000 in
set_option maxRecDepth 100000 in
/--  -/
theorem ct_leastPay (l : Launch) (en : en_T) (ad : Nat → Nat) (c : Nat → Nat → Int32) (hI : xw_I ad) (sz : Nat) (k : Nat) (pa : pa_C l en ad k) {G : gr_T} (hg : gi G c) (hc : gr_cpl G) (π : List (Nat × Int)) (j : Nat) (sm : Int) (si lo hi : Int32) (hpr : pr ((j, sm) :: π) c) (hok : gm_ok (gr_n G) ((j, sm) :: π)) (hk : 8 ≤ k + (π.length + 1)) (hj : j < gr_n G) (hne : gm_near π sm) (hs : si.toInt = sm) (hb1 : -(9 * (π.length : Int)) ≤ sm) (hb2 : sm ≤ 9 * (π.length : Int)) (hlh : lo.toInt < hi.toInt) (hl1 : -1000000 ≤ lo.toInt) (hh1 : hi.toInt ≤ 1000000) : Met l yX3_leastPay wsX3_leastPay (rm_ (2 * k + 6) 0 0) (ct_Pc en [.ref (ad 2), .int (nI j), .int (nI π.length), .int si, .int lo, .int hi] (fun H => H.size = sz ∧ va_P en.1 vwCl (xw en ad c) H)) (va_Qi (fun r c' => (-1000000 ≤ r.toInt ∧ r.toInt ≤ 1000000) ∧ ab lo.toInt hi.toInt (gm_mn (vl_l G k π j sm)) r.toInt ∧ kx [18, 19] c c' ∧ pr ((j, sm) :: π) c') (fun c' t => va_P en.1 vwCl (xw en ad c') t.heap) (xw_A ad sz)) 0 0 (xw_A ad sz) := by
  refine Met.ofW (cc := cX3_leastPay) (maxL := 11) (ret := (some .int)) (by decide) rfl ?_
  intro p e s m args below meth co s₁ B hml hv
  obtain ⟨rfl, hE, hsz, hP⟩ := hv
  subst hsz
  have hx := B.exec
  have hb := B.bytes
  have hr := B.returns
  have hts := atoms_spec (ws := wsX3_leastPay) B.pre
  have hown : s.vm.findClass RX3 = some m.cls := findClass_of_methodNamed B.named
  have hlocks := B.notSynchronized
  have hS : va_S (xw_A ad s.heap.size) s.heap s.heap [] := va_S.rf
  have hl := lv_entry ([.ref (ad 2), .int (nI j), .int (nI π.length), .int si, .int lo, .int hi]) (n := 11) (Nat.le_of_ble_eq_true rfl)
  rw [lg_entry_eq]
  generalize (lg_sl ([.ref (ad 2), .int (nI j), .int (nI π.length), .int si, .int lo, .int hi]) ++ List.replicate (11 - (lg_sl ([.ref (ad 2), .int (nI j), .int (nI π.length), .int si, .int lo, .int hi])).length) Slot.unset).toArray = ls at hl ⊢
  have hl : lv_has ls 11 [(0, .ref (ad 2)), (1, .int (nI j)), (2, .int (nI π.length)), (3, .int si), (4, .int lo), (5, .int hi)] := hl
  have hadl := gr_adj_len hg.ok j
  refine lv_ldc (own := RX3) (v := 1000000) hx hb hown (hts (.constant RX3 44 (1000000)) (by decide +kernel)) dX3_leastPay_0 ?_
  refine lv_istore (lv' := [(6, .int 1000000), (0, .ref (ad 2)), (1, .int (nI j)), (2, .int (nI π.length)), (3, .int si), (4, .int lo), (5, .int hi)]) hx hb dX3_leastPay_2 hl (by decide) rfl (fun ls hl => ?_)
  refine lv_aload_n hx hb dX3_leastPay_4 rfl (lv_at hl 1 rfl) ?_
  refine va_get (D := en.1) (ci := 3) (v := .ref (ad 1)) (C := RX3) (T := TX3) (N := 4) hx hb hts iw_X3_leastPay_X3 hown hE.1 hP 2 rfl rfl 0 (by decide) (hts (.fieldLink RX3 26 "CreditGame$Values" "graph" "LCreditGame$Graph;") (by decide +kernel)) (fun _ h9 => h9) rfl dX3_leastPay_5 ?_
  refine lv_iload_n hx hb dX3_leastPay_8 rfl (lv_at hl 2 rfl) ?_
  refine ro_calli (va_runVN (As := [.int (nI j)]) (rest := []) ⟨hx, hb, hml, hown, hts⟩ (ct_waysFrom l en ad c hg j (by have := hg.n7; omega)) ⟨va_cnB 1 hts gX3_leastPay_X1_waysFrom_n90 rfl rfl rfl (hE.2 _ (List.mem_of_getElem? (i := 45) rfl)) (hts (.initialized RX1) (by decide +kernel)) (by decide +kernel) ⟨by show 2 + 1 ≤ 2 * k + 6; omega, by show 8 + (2 + 11) + 40 * (2) ≤ 40 * (2 * k + 6); omega⟩, hts (.instanceMethod yX1_waysFrom) (by decide +kernel), hts (.selects RX1 yX1_waysFrom yX1_waysFrom) (by decide +kernel)⟩ (ct_preV hE (va_recv hE.1 hP (ci := 1) (q0 := 1) rfl rfl) hP) rfl rfl hl.1 rfl (lv_room (Nat.le_of_ble_eq_true rfl)) dX3_leastPay_9 ⟨Nat.zero_le _, Nat.zero_le _⟩) (fun r9 w9 => ?_)
  obtain rfl : r9 = nI (gr_adj G j).length := w9
  refine lv_istore (lv' := [(7, .int (nI (gr_adj G j).length)), (6, .int 1000000), (0, .ref (ad 2)), (1, .int (nI j)), (2, .int (nI π.length)), (3, .int si), (4, .int lo), (5, .int hi)]) hx hb dX3_leastPay_12 hl (by decide) rfl (fun ls hl => ?_)
  refine lv_iconst (v := (nI 0)) hx hb dX3_leastPay_14 (by decide) ?_
  refine lv_istore (lv' := [(8, .int (nI 0)), (7, .int (nI (gr_adj G j).length)), (6, .int 1000000), (0, .ref (ad 2)), (1, .int (nI j)), (2, .int (nI π.length)), (3, .int si), (4, .int lo), (5, .int hi)]) hx hb dX3_leastPay_15 hl (by decide) rfl (fun ls hl => ?_)
  have key17 : ∀ (n_ : Nat) (i : Nat) (pay : Int32) (c_ : Nat → Nat → Int32) (H : Heap) (locs : List Loc) (ls : Array Slot), i ≤ (gr_adj G j).length → (gr_adj G j).length + 1 ≤ i + n_ → gi G c_ → kx [18, 19] c c_ → pr ((j, sm) :: π) c_ → (-1000000 ≤ pay.toInt ∧ pay.toInt ≤ 1000000) → ab lo.toInt hi.toInt (gm_mn ((vl_l G k π j sm).take i)) pay.toInt → va_P en.1 vwCl (xw en ad c_) H → va_S (xw_A ad s.heap.size) s.heap H locs → lv_has ls 11 [(0, .ref (ad 2)), (1, .int (nI j)), (2, .int (nI π.length)), (3, .int si), (4, .int lo), (5, .int hi), (6, .int pay), (7, .int (nI (gr_adj G j).length)), (8, .int (nI i))] → W p l e (headSpec wsX3_leastPay (rm_ (2 * k + 6) 0 0)).room s m ([.ref (ad 2), .int (nI j), .int (nI π.length), .int si, .int lo, .int hi] : List Value).toArray below meth co H locs 0 0 (MQ below (va_Qi (fun r c' => (-1000000 ≤ r.toInt ∧ r.toInt ≤ 1000000) ∧ ab lo.toInt hi.toInt (gm_mn (vl_l G k π j sm)) r.toInt ∧ kx [18, 19] c c' ∧ pr ((j, sm) :: π) c') (fun c' t => va_P en.1 vwCl (xw en ad c') t.heap) (xw_A ad s.heap.size)) ([.ref (ad 2), .int (nI j), .int (nI π.length), .int si, .int lo, .int hi] : List Value).toArray s 0 0 (xw_A ad s.heap.size)) (F0 m 17 ls []) := by
    intro n_
    induction n_ with
    | zero =>
      intro i pay c_ H locs ls hi_ hin hg hkc hpr hpb hab hP hS hl
      exact absurd hin (by omega)
    | succ n_ ih17 =>
      intro i pay c_ H locs ls hi_ hin hg hkc hpr hpb hab hP hS hl
      have hadl := gr_adj_len hg.ok j
      refine lv_iload hx hb dX3_leastPay_17 (lv_at hl 8 rfl) ?_
      refine lv_iload hx hb dX3_leastPay_19 (lv_at hl 7 rfl) ?_
      refine lv_icmp_ge (tgt := 96) hx hb dX3_leastPay_21 (by decide) (fun b21 => ?_) (fun b21 => ?_)
      · skip
        have hin2 : i = (gr_adj G j).length := by
          rcases Nat.lt_or_ge i (gr_adj G j).length with q | q
          · exact absurd b21 (nI_ge q (by omega))
          · omega
        subst hin2
        rw [← vl_len G k π j sm, List.take_length] at hab
        refine lv_iload hx hb dX3_leastPay_96 (lv_at hl 6 rfl) ?_
        exact W.iret (v := pay) hx hb hr (fun t ht hW => ⟨⟨_, c_, rfl, (by first | exact ⟨hpb, hab, hkc, hpr⟩ | exact ⟨hpb, ab_mn_end hlh hpay hab gm_mn_part, hkc, hpr⟩), by show va_P _ _ _ t.heap; rw [ht]; exact hP⟩, hS.F ht⟩) hS.2.2 dX3_leastPay_98
      · skip
        have hlt : i < (gr_adj G j).length := by
          rcases Nat.lt_or_ge i (gr_adj G j).length with q | q
          · exact q
          · exact absurd (nI_le q (by omega)) b21
        have hm := gr_adj_at hg.ok hj hlt
        obtain ⟨x, hx_⟩ : ∃ z, z = (gr_adj G j).getD i 0 := ⟨_, rfl⟩
        rw [← hx_] at hm
        have hxE := (gr_adj_mem hg.ok hj hm).1
        have hx24 : x < 24 := by have := hg.e24; omega
        refine lv_iload hx hb dX3_leastPay_24 (lv_at hl 6 rfl) ?_
        refine lv_iload hx hb dX3_leastPay_26 (lv_at hl 4 rfl) ?_
        refine lv_icmp_le (tgt := 96) hx hb dX3_leastPay_28 (by decide) (fun b28 => ?_) (fun b28 => ?_)
        · skip
          have hpay := i_le.mp b28
          refine lv_iload hx hb dX3_leastPay_96 (lv_at hl 6 rfl) ?_
          exact W.iret (v := pay) hx hb hr (fun t ht hW => ⟨⟨_, c_, rfl, (by first | exact ⟨hpb, hab, hkc, hpr⟩ | exact ⟨hpb, ab_mn_end hlh hpay hab gm_mn_part, hkc, hpr⟩), by show va_P _ _ _ t.heap; rw [ht]; exact hP⟩, hS.F ht⟩) hS.2.2 dX3_leastPay_98
        · skip
          have hpay : ¬ _ := fun q => b28 (i_le.mpr q)
          refine lv_aload_n hx hb dX3_leastPay_31 rfl (lv_at hl 0 rfl) ?_
          refine va_get (D := en.1) (ci := 3) (v := .ref (ad 1)) (C := RX3) (T := TX3) (N := 4) hx hb hts iw_X3_leastPay_X3 hown hE.1 hP 2 rfl rfl 0 (by decide) (hts (.fieldLink RX3 26 "CreditGame$Values" "graph" "LCreditGame$Graph;") (by decide +kernel)) (fun _ h9 => h9) rfl dX3_leastPay_32 ?_
          refine lv_iload_n hx hb dX3_leastPay_35 rfl (lv_at hl 1 rfl) ?_
          refine lv_iload hx hb dX3_leastPay_36 (lv_at hl 8 rfl) ?_
          refine ro_calli (va_runVN (As := [.int (nI j), .int (nI i)]) (rest := []) ⟨hx, hb, hml, hown, hts⟩ (ct_wayFrom l en ad c_ hg j i hj hlt) ⟨va_cnB 2 hts gX3_leastPay_X1_wayFrom_n93 rfl rfl rfl (hE.2 _ (List.mem_of_getElem? (i := 46) rfl)) (hts (.initialized RX1) (by decide +kernel)) (by decide +kernel) ⟨by show 2 + 1 ≤ 2 * k + 6; omega, by show 8 + (3 + 11) + 40 * (2) ≤ 40 * (2 * k + 6); omega⟩, hts (.instanceMethod yX1_wayFrom) (by decide +kernel), hts (.selects RX1 yX1_wayFrom yX1_wayFrom) (by decide +kernel)⟩ (ct_preV hE (va_recv hE.1 hP (ci := 1) (q0 := 1) rfl rfl) hP) rfl rfl hl.1 rfl (lv_room (Nat.le_of_ble_eq_true rfl)) dX3_leastPay_38 ⟨Nat.zero_le _, Nat.zero_le _⟩) (fun r38 w38 => ?_)
          obtain rfl : r38 = (nI x) := (w38.trans (by rw [hx_]))
          refine lv_istore (lv' := [(9, .int (nI x)), (0, .ref (ad 2)), (1, .int (nI j)), (2, .int (nI π.length)), (3, .int si), (4, .int lo), (5, .int hi), (6, .int pay), (7, .int (nI (gr_adj G j).length)), (8, .int (nI i))]) hx hb dX3_leastPay_41 hl (by decide) rfl (fun ls hl => ?_)
          refine lv_aload_n hx hb dX3_leastPay_43 rfl (lv_at hl 1 rfl) ?_
          refine va_get (D := en.1) (ci := 3) (v := .ref (ad 1)) (C := RX3) (T := TX3) (N := 4) hx hb hts iw_X3_leastPay_X3 hown hE.1 hP 2 rfl rfl 0 (by decide) (hts (.fieldLink RX3 26 "CreditGame$Values" "graph" "LCreditGame$Graph;") (by decide +kernel)) (fun _ h9 => h9) rfl dX3_leastPay_44 ?_
          refine lv_iload hx hb dX3_leastPay_47 (lv_at hl 0 rfl) ?_
          refine ro_calli (va_runVN (As := [.int (nI x)]) (rest := []) ⟨hx, hb, hml, hown, hts⟩ (ct_targetOf l en ad c_ hg x hx24) ⟨va_cnB 1 hts gX3_leastPay_X1_targetOf_n96 rfl rfl rfl (hE.2 _ (List.mem_of_getElem? (i := 47) rfl)) (hts (.initialized RX1) (by decide +kernel)) (by decide +kernel) ⟨by show 1 + 1 ≤ 2 * k + 6; omega, by show 8 + (2 + 11) + 40 * (1) ≤ 40 * (2 * k + 6); omega⟩, hts (.instanceMethod yX1_targetOf) (by decide +kernel), hts (.selects RX1 yX1_targetOf yX1_targetOf) (by decide +kernel)⟩ (ct_preV hE (va_recv hE.1 hP (ci := 1) (q0 := 1) rfl rfl) hP) rfl rfl hl.1 rfl (lv_room (Nat.le_of_ble_eq_true rfl)) dX3_leastPay_49 ⟨Nat.zero_le _, Nat.zero_le _⟩) (fun r49 w49 => ?_)
          obtain rfl : r49 = (nI (gr_tgt G x)) := (w49.trans (gr_tgt_lt hg.ok hxE).2)
          refine lv_istore (lv' := [(10, .int (nI (gr_tgt G x))), (9, .int (nI x)), (0, .ref (ad 2)), (1, .int (nI j)), (2, .int (nI π.length)), (3, .int si), (4, .int lo), (5, .int hi), (6, .int pay), (7, .int (nI (gr_adj G j).length)), (8, .int (nI i))]) hx hb dX3_leastPay_52 hl (by decide) rfl (fun ls hl => ?_)
          refine lv_iload hx hb dX3_leastPay_54 (lv_at hl 8 rfl) ?_
          refine lv_aload_n hx hb dX3_leastPay_56 rfl (lv_at hl 2 rfl) ?_
          refine lv_iload hx hb dX3_leastPay_57 (lv_at hl 0 rfl) ?_
          refine lv_iload_n hx hb dX3_leastPay_59 rfl (lv_at hl 4 rfl) ?_
          refine lv_iconst (v := 1) hx hb dX3_leastPay_60 (by decide) ?_
          refine lv_iadd hx hb dX3_leastPay_61 ?_
          refine lv_topi (fun z_61 ez_61 => ?_)
          obtain rfl : z_61 = (nI (π.length + 1)) := (ez_61.trans (nI_1 _))
          refine lv_iload_n hx hb dX3_leastPay_62 rfl (lv_at hl 5 rfl) ?_
          refine lv_aload_n hx hb dX3_leastPay_63 rfl (lv_at hl 2 rfl) ?_
          refine va_get (D := en.1) (ci := 3) (v := .ref (ad 1)) (C := RX3) (T := TX3) (N := 4) hx hb hts iw_X3_leastPay_X3 hown hE.1 hP 2 rfl rfl 0 (by decide) (hts (.fieldLink RX3 26 "CreditGame$Values" "graph" "LCreditGame$Graph;") (by decide +kernel)) (fun _ h9 => h9) rfl dX3_leastPay_64 ?_
          refine lv_iload hx hb dX3_leastPay_67 (lv_at hl 1 rfl) ?_
          refine ro_calli (va_runVN (As := [.int (nI x)]) (rest := [.int si, .int (nI (π.length + 1)), .int (nI (gr_tgt G x)), .ref (ad 2), .int pay]) ⟨hx, hb, hml, hown, hts⟩ (ct_weightOf l en ad c_ hg x hx24) ⟨va_cnB 1 hts gX3_leastPay_X1_weightOf_n99 rfl rfl rfl (hE.2 _ (List.mem_of_getElem? (i := 48) rfl)) (hts (.initialized RX1) (by decide +kernel)) (by decide +kernel) ⟨by show 1 + 1 ≤ 2 * k + 6; omega, by show 8 + (2 + 11) + 40 * (1) ≤ 40 * (2 * k + 6); omega⟩, hts (.instanceMethod yX1_weightOf) (by decide +kernel), hts (.selects RX1 yX1_weightOf yX1_weightOf) (by decide +kernel)⟩ (ct_preV hE (va_recv hE.1 hP (ci := 1) (q0 := 1) rfl rfl) hP) rfl rfl hl.1 rfl (lv_room (Nat.le_of_ble_eq_true rfl)) dX3_leastPay_69 ⟨Nat.zero_le _, Nat.zero_le _⟩) (fun r69 w69 => ?_)
          obtain rfl : r69 = (gr_wt G x) := w69
          refine lv_iadd hx hb dX3_leastPay_72 ?_
          refine lv_topi (fun s1 hs1 => ?_)
          have hw9 := (hg.ok.ed x hxE).2.2
          have hs1i : s1.toInt = sm + gr_w G x := by
            rw [hs1, gr_w_eq hxE, i_add (by rw [hs]; have := gm_ok_len hok; have := hg.n7; simp only [List.length_cons] at *; omega) (by rw [hs]; have := gm_ok_len hok; have := hg.n7; simp only [List.length_cons] at *; omega), hs]
          rw [← gr_w_eq hxE] at hw9
          refine lv_iload hx hb dX3_leastPay_73 (lv_at hl 6 rfl) ?_
          refine lv_iload hx hb dX3_leastPay_75 (lv_at hl 7 rfl) ?_
          refine lv_iload hx hb dX3_leastPay_77 (lv_at hl 8 rfl) ?_
          refine va_mmin hx hb (hml.trans hl.1.symm) (own := RX3) hown (hts (.methodLink RX3 107 Lib.Math.min.name) (by decide +kernel)) (hts (.static Lib.Math.min.name) (by decide +kernel)) (hts (.initialized "java/lang/Math") (by decide +kernel)) (hts (.code Lib.Math.min.name Lib.Math.min.code 2 (some .int)) (by decide +kernel)) (by show 1 ≤ 2 * k + 6; omega) (Nat.le_trans (Nat.le_of_ble_eq_true rfl : _ ≤ 40) (by show 40 ≤ 40 * (2 * k + 6); omega)) (Nat.zero_le _) (Nat.zero_le _) dX3_leastPay_79 ?_
          refine lv_topi (fun lo1 hlo1 => ?_)
          refine xr_calli (va_runV (As := [.int (nI (gr_tgt G x)), .int (nI (π.length + 1)), .int s1, .int lo, .int lo1]) (rest := [.int pay]) ⟨hx, hb, hml, hown, hts⟩ (pa c_ _ hg hc ((j, sm) :: π) (gr_tgt G x) (sm + gr_w G x) s1 lo lo1 hpr hok (by simp only [List.length_cons]; omega) (gr_tgt_lt hg.ok hxE).1 (gm_near_push hne hw9.1 hw9.2) hs1i (by simp only [List.length_cons]; omega) (by simp only [List.length_cons]; omega) (by rw [hlo1, i_min]; omega) (by first | (rw [hlo1, i_min]; omega) | omega) (by first | (rw [hlo1, i_min]; omega) | omega)) (cwV 5 hts gX3_leastPay_X3_playAt rfl rfl rfl (by decide +kernel) ⟨by show 2 * k + 5 + 1 ≤ 2 * k + 6; omega, by show 8 + (7 + 11) + 40 * (2 * k + 5) ≤ 40 * (2 * k + 6); omega⟩) (ct_preV hE (va_recv hE.1 hP (ci := 3) (q0 := 2) rfl rfl) ⟨rfl, hP⟩) rfl rfl hl.1 rfl (lv_room (Nat.le_of_ble_eq_true rfl)) dX3_leastPay_82 ⟨Nat.zero_le _, Nat.zero_le _⟩) hS (fun r82 c82 H locs w82 hP hS => ?_)
          refine va_mmin hx hb (hml.trans hl.1.symm) (own := RX3) hown (hts (.methodLink RX3 107 Lib.Math.min.name) (by decide +kernel)) (hts (.static Lib.Math.min.name) (by decide +kernel)) (hts (.initialized "java/lang/Math") (by decide +kernel)) (hts (.code Lib.Math.min.name Lib.Math.min.code 2 (some .int)) (by decide +kernel)) (by show 1 ≤ 2 * k + 6; omega) (Nat.le_trans (Nat.le_of_ble_eq_true rfl : _ ≤ 40) (by show 40 ≤ 40 * (2 * k + 6); omega)) (Nat.zero_le _) (Nat.zero_le _) dX3_leastPay_85 ?_
          refine lv_topi (fun pay1 hpay1 => ?_)
          refine lv_istore (lv' := [(6, .int pay1), (10, .int (nI (gr_tgt G x))), (9, .int (nI x)), (0, .ref (ad 2)), (1, .int (nI j)), (2, .int (nI π.length)), (3, .int si), (4, .int lo), (5, .int hi), (7, .int (nI (gr_adj G j).length)), (8, .int (nI i))]) hx hb dX3_leastPay_88 hl (by decide) rfl (fun ls hl => ?_)
          refine lv_iinc (v := (nI (i + 1))) (lv' := [(8, .int (nI (i + 1))), (6, .int pay1), (10, .int (nI (gr_tgt G x))), (9, .int (nI x)), (0, .ref (ad 2)), (1, .int (nI j)), (2, .int (nI π.length)), (3, .int si), (4, .int lo), (5, .int hi), (7, .int (nI (gr_adj G j).length))]) hx hb dX3_leastPay_90 hl (k := 10) rfl (nI_1 _) (by decide) rfl (fun ls hl => ?_)
          refine lv_goto (tgt := 17) hx hb dX3_leastPay_93 (by decide) ?_
          exact ih17 (i + 1) pay1 c82 _ _ _ (by omega) (by omega) (hg.kx w82.2.2.1 (kx_12 rfl)) (hkc.tr w82.2.2.1) w82.2.2.2 (by rw [hpay1, i_min]; omega) (by rw [vl_mn_next hg.ok hc hk hok hj hne hlt, ← hx_]; exact ab_mn (hi1 := lo1.toInt) hlh (by omega) hab (by rw [hlo1, i_min]) w82.2.1 (by rw [hpay1, i_min])) hP hS (lv_sub hl [4, 5, 6, 7, 8, 9, 1, 10, 0] rfl)
  exact key17 ((gr_adj G j).length + 1) 0 1000000 c _ _ _ (Nat.zero_le _) (by omega) hg kx.rf hpr (by decide) (by rw [List.take_zero]; show ab _ _ (1000000) (1000000 : Int32).toInt; rw [i_hi]; exact ab_rf) hP hS (lv_sub hl [3, 4, 5, 6, 7, 8, 2, 1, 0] rfl)
theorem iw_X3_playAt_X3 : ∀ w ∈ wsX30, w ∈ wsX3_playAt := by decide +kernel
set_option maxHeartbeats 4000000 in
set_option maxRecDepth 100000 in
/--  -/
theorem ct_playAt_step (l : Launch) (en : en_T) (ad : Nat → Nat) (c : Nat → Nat → Int32) (hI : xw_I ad) (sz : Nat) (k : Nat) (gp : gp_C l en ad k) (lp : lp_C l en ad k) {G : gr_T} (hg : gi G c) (hc : gr_cpl G) (π : List (Nat × Int)) (j : Nat) (sm : Int) (si lo hi : Int32) (hpr : pr π c) (hok : gm_ok (gr_n G) π) (hk : 8 ≤ (k + 1) + π.length) (hj : j < gr_n G) (hne : gm_near π sm) (hs : si.toInt = sm) (hb1 : -(9 * (π.length : Int)) ≤ sm) (hb2 : sm ≤ 9 * (π.length : Int)) (hlh : lo.toInt < hi.toInt) (hl1 : -1000000 ≤ lo.toInt) (hh1 : hi.toInt ≤ 1000000) : Met l yX3_playAt wsX3_playAt (rm_ (2 * (k + 1) + 5) 0 0) (ct_Pc en [.ref (ad 2), .int (nI j), .int (nI π.length), .int si, .int lo, .int hi] (fun H => H.size = sz ∧ va_P en.1 vwCl (xw en ad c) H)) (va_Qi (fun r c' => (-1000000 ≤ r.toInt ∧ r.toInt ≤ 1000000) ∧ ab lo.toInt hi.toInt (vl_p G (k + 1) π j sm) r.toInt ∧ kx [18, 19] c c' ∧ pr π c') (fun c' t => va_P en.1 vwCl (xw en ad c') t.heap) (xw_A ad sz)) 0 0 (xw_A ad sz) := by
  refine Met.ofW (cc := cX3_playAt) (maxL := 7) (ret := (some .int)) (by decide) rfl ?_
  intro p e s m args below meth co s₁ B hml hv
  obtain ⟨rfl, hE, hsz, hP⟩ := hv
  subst hsz
  have hx := B.exec
  have hb := B.bytes
  have hr := B.returns
  have hts := atoms_spec (ws := wsX3_playAt) B.pre
  have hown : s.vm.findClass RX3 = some m.cls := findClass_of_methodNamed B.named
  have hlocks := B.notSynchronized
  have hS : va_S (xw_A ad s.heap.size) s.heap s.heap [] := va_S.rf
  have hl := lv_entry ([.ref (ad 2), .int (nI j), .int (nI π.length), .int si, .int lo, .int hi]) (n := 7) (Nat.le_of_ble_eq_true rfl)
  rw [lg_entry_eq]
  generalize (lg_sl ([.ref (ad 2), .int (nI j), .int (nI π.length), .int si, .int lo, .int hi]) ++ List.replicate (7 - (lg_sl ([.ref (ad 2), .int (nI j), .int (nI π.length), .int si, .int lo, .int hi])).length) Slot.unset).toArray = ls at hl ⊢
  have hl : lv_has ls 7 [(0, .ref (ad 2)), (1, .int (nI j)), (2, .int (nI π.length)), (3, .int si), (4, .int lo), (5, .int hi)] := hl
  have hn7 := hg.n7
  have hj7 : j < 7 := by omega
  have hlen := gm_ok_len hok
  refine lv_aload_n hx hb dX3_playAt_0 rfl (lv_at hl 0 rfl) ?_
  refine va_get (D := en.1) (ci := 3) (v := .ref (ad 1)) (C := RX3) (T := TX3) (N := 4) hx hb hts iw_X3_playAt_X3 hown hE.1 hP 2 rfl rfl 0 (by decide) (hts (.fieldLink RX3 26 "CreditGame$Values" "graph" "LCreditGame$Graph;") (by decide +kernel)) (fun _ h9 => h9) rfl dX3_playAt_1 ?_
  refine lv_iload_n hx hb dX3_playAt_4 rfl (lv_at hl 1 rfl) ?_
  refine ro_calli (va_runVN (As := [.int (nI j)]) (rest := []) ⟨hx, hb, hml, hown, hts⟩ (ct_hasVertex l en ad c hg (nI j)) ⟨va_cnB 1 hts gX3_playAt_X1_hasVertex_n34 rfl rfl rfl (hE.2 _ (List.mem_of_getElem? (i := 37) rfl)) (hts (.initialized RX1) (by decide +kernel)) (by decide +kernel) ⟨by show 1 + 1 ≤ 2 * (k + 1) + 5; omega, by show 8 + (2 + 11) + 40 * (1) ≤ 40 * (2 * (k + 1) + 5); omega⟩, hts (.instanceMethod yX1_hasVertex) (by decide +kernel), hts (.selects RX1 yX1_hasVertex yX1_hasVertex) (by decide +kernel)⟩ (ct_preV hE (va_recv hE.1 hP (ci := 1) (q0 := 1) rfl rfl) hP) rfl rfl hl.1 rfl (lv_room (Nat.le_of_ble_eq_true rfl)) dX3_playAt_5 ⟨Nat.zero_le _, Nat.zero_le _⟩) (fun r5 w5 => ?_)
  obtain rfl : r5 = 1 := hv_one hj w5
  refine lv_if_eq (tgt := 17) hx hb dX3_playAt_8 (by decide) (fun b8 => absurd b8 (by decide)) (fun b8 => ?_)
  refine lv_iload_n hx hb dX3_playAt_11 rfl (lv_at hl 2 rfl) ?_
  refine lv_bipush (v := (nI 7)) hx hb dX3_playAt_12 (by decide) ?_
  refine lv_icmp_le (tgt := 19) hx hb dX3_playAt_14 (by decide) (fun b14 => ?_) (fun b14 => absurd b14 (fun q => q (nI_le (by omega) (by omega))))
  cases hat : gm_at π j with
  | none =>
    have h18 := (hpr j hj7).1 hat
    refine lv_aload_n hx hb dX3_playAt_19 rfl (lv_at hl 0 rfl) ?_
    refine va_get (D := en.1) (ci := 3) (v := .ref (ad 5)) (C := RX3) (T := TX3) (N := 4) hx hb hts iw_X3_playAt_X3 hown hE.1 hP 2 rfl rfl 1 (by decide) (hts (.fieldLink RX3 12 "CreditGame$Values" "path" "LCreditGame$Path;") (by decide +kernel)) (fun _ h9 => h9) rfl dX3_playAt_20 ?_
    refine lv_iload_n hx hb dX3_playAt_23 rfl (lv_at hl 1 rfl) ?_
    refine ro_calli (va_runVN (As := [.int (nI j)]) (rest := []) ⟨hx, hb, hml, hown, hts⟩ (ct_has_p l en ad c j hj7) ⟨va_cnB 1 hts gX3_playAt_X2_has_n62 rfl rfl rfl (hE.2 _ (List.mem_of_getElem? (i := 39) rfl)) (hts (.initialized RX2) (by decide +kernel)) (by decide +kernel) ⟨by show 2 + 1 ≤ 2 * (k + 1) + 5; omega, by show 8 + (2 + 11) + 40 * (2) ≤ 40 * (2 * (k + 1) + 5); omega⟩, hts (.instanceMethod yX2_has) (by decide +kernel), hts (.selects RX2 yX2_has yX2_has) (by decide +kernel)⟩ (ct_preV hE (va_recv hE.1 hP (ci := 2) (q0 := 5) rfl rfl) hP) rfl rfl hl.1 rfl (lv_room (Nat.le_of_ble_eq_true rfl)) dX3_playAt_24 ⟨Nat.zero_le _, Nat.zero_le _⟩) (fun r24 w24 => ?_)
    obtain rfl : r24 = 0 := (w24.trans (if_pos h18))
    refine lv_if_eq (tgt := 54) hx hb dX3_playAt_27 (by decide) (fun b27 => ?_) (fun b27 => absurd b27 (fun q => q rfl))
    refine lv_aload_n hx hb dX3_playAt_54 rfl (lv_at hl 0 rfl) ?_
    refine va_get (D := en.1) (ci := 3) (v := .ref (ad 5)) (C := RX3) (T := TX3) (N := 4) hx hb hts iw_X3_playAt_X3 hown hE.1 hP 2 rfl rfl 1 (by decide) (hts (.fieldLink RX3 12 "CreditGame$Values" "path" "LCreditGame$Path;") (by decide +kernel)) (fun _ h9 => h9) rfl dX3_playAt_55 ?_
    refine lv_iload_n hx hb dX3_playAt_58 rfl (lv_at hl 1 rfl) ?_
    refine lv_iload_n hx hb dX3_playAt_59 rfl (lv_at hl 2 rfl) ?_
    refine lv_iload_n hx hb dX3_playAt_60 rfl (lv_at hl 3 rfl) ?_
    refine xr_callv (va_runVN (As := [.int (nI j), .int (nI π.length), .int si]) (rest := []) ⟨hx, hb, hml, hown, hts⟩ (ct_enter_p l en ad c hI _ j hj7 (nI π.length) si) ⟨va_cnB 3 hts gX3_playAt_X2_enter_n74 rfl rfl rfl (hE.2 _ (List.mem_of_getElem? (i := 42) rfl)) (hts (.initialized RX2) (by decide +kernel)) (by decide +kernel) ⟨by show 2 + 1 ≤ 2 * (k + 1) + 5; omega, by show 8 + (4 + 11) + 40 * (2) ≤ 40 * (2 * (k + 1) + 5); omega⟩, hts (.instanceMethod yX2_enter) (by decide +kernel), hts (.selects RX2 yX2_enter yX2_enter) (by decide +kernel)⟩ (ct_preV hE (va_recv hE.1 hP (ci := 2) (q0 := 5) rfl rfl) ⟨rfl, hP⟩) rfl rfl hl.1 rfl (lv_room (Nat.le_of_ble_eq_true rfl)) dX3_playAt_61 ⟨Nat.zero_le _, Nat.zero_le _⟩) hS (fun c61 H locs w61 hP hS => ?_)
    have hg1 : gi G c61 := by rw [w61]; exact (hg.up (by omega)).up (by omega)
    have hpr1 : pr ((j, sm) :: π) c61 := by rw [w61]; exact pr_push hpr rfl hs
    have hk1 : kx [18, 19] c c61 := by rw [w61]; exact (kx.up (by decide)).tr (kx.up (by decide))
    have hok1 := gm_ok_at (s := sm) hok hj hat
    refine lv_aload_n hx hb dX3_playAt_64 rfl (lv_at hl 0 rfl) ?_
    refine va_get (D := en.1) (ci := 3) (v := .ref (ad 1)) (C := RX3) (T := TX3) (N := 4) hx hb hts iw_X3_playAt_X3 hown hE.1 hP 2 rfl rfl 0 (by decide) (hts (.fieldLink RX3 26 "CreditGame$Values" "graph" "LCreditGame$Graph;") (by decide +kernel)) (fun _ h9 => h9) rfl dX3_playAt_65 ?_
    refine lv_iload_n hx hb dX3_playAt_68 rfl (lv_at hl 1 rfl) ?_
    refine ro_calli (va_runVN (As := [.int (nI j)]) (rest := []) ⟨hx, hb, hml, hown, hts⟩ (ct_ownerOf l en ad c61 hg1 j hj7) ⟨va_cnB 1 hts gX3_playAt_X1_ownerOf_n78 rfl rfl rfl (hE.2 _ (List.mem_of_getElem? (i := 43) rfl)) (hts (.initialized RX1) (by decide +kernel)) (by decide +kernel) ⟨by show 2 + 1 ≤ 2 * (k + 1) + 5; omega, by show 8 + (2 + 11) + 40 * (2) ≤ 40 * (2 * (k + 1) + 5); omega⟩, hts (.instanceMethod yX1_ownerOf) (by decide +kernel), hts (.selects RX1 yX1_ownerOf yX1_ownerOf) (by decide +kernel)⟩ (ct_preV hE (va_recv hE.1 hP (ci := 1) (q0 := 1) rfl rfl) hP) rfl rfl hl.1 rfl (lv_room (Nat.le_of_ble_eq_true rfl)) dX3_playAt_69 ⟨Nat.zero_le _, Nat.zero_le _⟩) (fun r69 w69 => ?_)
    obtain rfl : r69 = (gr_own G j) := (w69.trans (if_pos hj))
    refine lv_if_ne (tgt := 89) hx hb dX3_playAt_72 (by decide) (fun b72 => ?_) (fun b72 => ?_)
    · skip
      refine lv_aload_n hx hb dX3_playAt_89 rfl (lv_at hl 0 rfl) ?_
      refine lv_iload_n hx hb dX3_playAt_90 rfl (lv_at hl 1 rfl) ?_
      refine lv_iload_n hx hb dX3_playAt_91 rfl (lv_at hl 2 rfl) ?_
      refine lv_iload_n hx hb dX3_playAt_92 rfl (lv_at hl 3 rfl) ?_
      refine lv_iload hx hb dX3_playAt_93 (lv_at hl 4 rfl) ?_
      refine lv_iload hx hb dX3_playAt_95 (lv_at hl 5 rfl) ?_
      refine xr_calli (va_runV (As := [.int (nI j), .int (nI π.length), .int si, .int lo, .int hi]) (rest := []) ⟨hx, hb, hml, hown, hts⟩ (lp c61 _ hg1 hc π j sm si lo hi hpr1 hok1 (by omega) hj hne hs hb1 hb2 hlh hl1 hh1) (cwV 5 hts gX3_playAt_X3_leastPay rfl rfl rfl (by decide +kernel) ⟨by show 2 * k + 6 + 1 ≤ 2 * (k + 1) + 5; omega, by show 8 + (11 + 11) + 40 * (2 * k + 6) ≤ 40 * (2 * (k + 1) + 5); omega⟩) (ct_preV hE (va_recv hE.1 hP (ci := 3) (q0 := 2) rfl rfl) ⟨rfl, hP⟩) rfl rfl hl.1 rfl (lv_room (Nat.le_of_ble_eq_true rfl)) dX3_playAt_97 ⟨Nat.zero_le _, Nat.zero_le _⟩) hS (fun r97 c97 H locs w97 hP hS => ?_)
      refine lv_istore (lv' := [(6, .int r97), (0, .ref (ad 2)), (1, .int (nI j)), (2, .int (nI π.length)), (3, .int si), (4, .int lo), (5, .int hi)]) hx hb dX3_playAt_100 hl (by decide) rfl (fun ls hl => ?_)
      refine lv_aload_n hx hb dX3_playAt_102 rfl (lv_at hl 1 rfl) ?_
      refine va_get (D := en.1) (ci := 3) (v := .ref (ad 5)) (C := RX3) (T := TX3) (N := 4) hx hb hts iw_X3_playAt_X3 hown hE.1 hP 2 rfl rfl 1 (by decide) (hts (.fieldLink RX3 12 "CreditGame$Values" "path" "LCreditGame$Path;") (by decide +kernel)) (fun _ h9 => h9) rfl dX3_playAt_103 ?_
      refine lv_iload_n hx hb dX3_playAt_106 rfl (lv_at hl 2 rfl) ?_
      refine xr_callv (va_runVN (As := [.int (nI j)]) (rest := []) ⟨hx, hb, hml, hown, hts⟩ (ct_leave_p l en ad c97 hI _ j hj7) ⟨va_cnB 1 hts gX3_playAt_X2_leave_n87 rfl rfl rfl (hE.2 _ (List.mem_of_getElem? (i := 44) rfl)) (hts (.initialized RX2) (by decide +kernel)) (by decide +kernel) ⟨by show 2 + 1 ≤ 2 * (k + 1) + 5; omega, by show 8 + (2 + 11) + 40 * (2) ≤ 40 * (2 * (k + 1) + 5); omega⟩, hts (.instanceMethod yX2_leave) (by decide +kernel), hts (.selects RX2 yX2_leave yX2_leave) (by decide +kernel)⟩ (ct_preV hE (va_recv hE.1 hP (ci := 2) (q0 := 5) rfl rfl) ⟨rfl, hP⟩) rfl rfl hl.1 rfl (lv_room (Nat.le_of_ble_eq_true rfl)) dX3_playAt_107 ⟨Nat.zero_le _, Nat.zero_le _⟩) hS (fun c107 H locs w107 hP hS => ?_)
      refine lv_iload hx hb dX3_playAt_110 (lv_at hl 0 rfl) ?_
      exact W.iret (v := r97) hx hb hr (fun t ht hW => ⟨⟨_, c107, rfl, ⟨w97.1, by rw [vl_mn hat b72]; exact w97.2.1, by rw [w107]; exact (hk1.tr w97.2.2.1).tr (kx.up (by decide)), by rw [w107]; exact pr_pop w97.2.2.2 hat⟩, by show va_P _ _ _ t.heap; rw [ht]; exact hP⟩, hS.F ht⟩) hS.2.2 dX3_playAt_112
    · skip
      refine lv_aload_n hx hb dX3_playAt_75 rfl (lv_at hl 0 rfl) ?_
      refine lv_iload_n hx hb dX3_playAt_76 rfl (lv_at hl 1 rfl) ?_
      refine lv_iload_n hx hb dX3_playAt_77 rfl (lv_at hl 2 rfl) ?_
      refine lv_iload_n hx hb dX3_playAt_78 rfl (lv_at hl 3 rfl) ?_
      refine lv_iload hx hb dX3_playAt_79 (lv_at hl 4 rfl) ?_
      refine lv_iload hx hb dX3_playAt_81 (lv_at hl 5 rfl) ?_
      refine xr_calli (va_runV (As := [.int (nI j), .int (nI π.length), .int si, .int lo, .int hi]) (rest := []) ⟨hx, hb, hml, hown, hts⟩ (gp c61 _ hg1 hc π j sm si lo hi hpr1 hok1 (by omega) hj hne hs hb1 hb2 hlh hl1 hh1) (cwV 5 hts gX3_playAt_X3_greatestPay rfl rfl rfl (by decide +kernel) ⟨by show 2 * k + 6 + 1 ≤ 2 * (k + 1) + 5; omega, by show 8 + (11 + 11) + 40 * (2 * k + 6) ≤ 40 * (2 * (k + 1) + 5); omega⟩) (ct_preV hE (va_recv hE.1 hP (ci := 3) (q0 := 2) rfl rfl) ⟨rfl, hP⟩) rfl rfl hl.1 rfl (lv_room (Nat.le_of_ble_eq_true rfl)) dX3_playAt_83 ⟨Nat.zero_le _, Nat.zero_le _⟩) hS (fun r83 c83 H locs w83 hP hS => ?_)
      refine lv_goto (tgt := 100) hx hb dX3_playAt_86 (by decide) ?_
      refine lv_istore (lv' := [(6, .int r83), (0, .ref (ad 2)), (1, .int (nI j)), (2, .int (nI π.length)), (3, .int si), (4, .int lo), (5, .int hi)]) hx hb dX3_playAt_100 hl (by decide) rfl (fun ls hl => ?_)
      refine lv_aload_n hx hb dX3_playAt_102 rfl (lv_at hl 1 rfl) ?_
      refine va_get (D := en.1) (ci := 3) (v := .ref (ad 5)) (C := RX3) (T := TX3) (N := 4) hx hb hts iw_X3_playAt_X3 hown hE.1 hP 2 rfl rfl 1 (by decide) (hts (.fieldLink RX3 12 "CreditGame$Values" "path" "LCreditGame$Path;") (by decide +kernel)) (fun _ h9 => h9) rfl dX3_playAt_103 ?_
      refine lv_iload_n hx hb dX3_playAt_106 rfl (lv_at hl 2 rfl) ?_
      refine xr_callv (va_runVN (As := [.int (nI j)]) (rest := []) ⟨hx, hb, hml, hown, hts⟩ (ct_leave_p l en ad c83 hI _ j hj7) ⟨va_cnB 1 hts gX3_playAt_X2_leave_n87 rfl rfl rfl (hE.2 _ (List.mem_of_getElem? (i := 44) rfl)) (hts (.initialized RX2) (by decide +kernel)) (by decide +kernel) ⟨by show 2 + 1 ≤ 2 * (k + 1) + 5; omega, by show 8 + (2 + 11) + 40 * (2) ≤ 40 * (2 * (k + 1) + 5); omega⟩, hts (.instanceMethod yX2_leave) (by decide +kernel), hts (.selects RX2 yX2_leave yX2_leave) (by decide +kernel)⟩ (ct_preV hE (va_recv hE.1 hP (ci := 2) (q0 := 5) rfl rfl) ⟨rfl, hP⟩) rfl rfl hl.1 rfl (lv_room (Nat.le_of_ble_eq_true rfl)) dX3_playAt_107 ⟨Nat.zero_le _, Nat.zero_le _⟩) hS (fun c107 H locs w107 hP hS => ?_)
      refine lv_iload hx hb dX3_playAt_110 (lv_at hl 0 rfl) ?_
      exact W.iret (v := r83) hx hb hr (fun t ht hW => ⟨⟨_, c107, rfl, ⟨w83.1, by rw [vl_mx hat hj b72]; exact w83.2.1, by rw [w107]; exact (hk1.tr w83.2.2.1).tr (kx.up (by decide)), by rw [w107]; exact pr_pop w83.2.2.2 hat⟩, by show va_P _ _ _ t.heap; rw [ht]; exact hP⟩, hS.F ht⟩) hS.2.2 dX3_playAt_112
  | some qq =>
    obtain ⟨d, s0⟩ := qq
    have h18 := (hpr j hj7).2 d s0 hat
    have hd := gm_at_len hat
    have hnr := hne j d s0 hat
    refine lv_aload_n hx hb dX3_playAt_19 rfl (lv_at hl 0 rfl) ?_
    refine va_get (D := en.1) (ci := 3) (v := .ref (ad 5)) (C := RX3) (T := TX3) (N := 4) hx hb hts iw_X3_playAt_X3 hown hE.1 hP 2 rfl rfl 1 (by decide) (hts (.fieldLink RX3 12 "CreditGame$Values" "path" "LCreditGame$Path;") (by decide +kernel)) (fun _ h9 => h9) rfl dX3_playAt_20 ?_
    refine lv_iload_n hx hb dX3_playAt_23 rfl (lv_at hl 1 rfl) ?_
    refine ro_calli (va_runVN (As := [.int (nI j)]) (rest := []) ⟨hx, hb, hml, hown, hts⟩ (ct_has_p l en ad c j hj7) ⟨va_cnB 1 hts gX3_playAt_X2_has_n62 rfl rfl rfl (hE.2 _ (List.mem_of_getElem? (i := 39) rfl)) (hts (.initialized RX2) (by decide +kernel)) (by decide +kernel) ⟨by show 2 + 1 ≤ 2 * (k + 1) + 5; omega, by show 8 + (2 + 11) + 40 * (2) ≤ 40 * (2 * (k + 1) + 5); omega⟩, hts (.instanceMethod yX2_has) (by decide +kernel), hts (.selects RX2 yX2_has yX2_has) (by decide +kernel)⟩ (ct_preV hE (va_recv hE.1 hP (ci := 2) (q0 := 5) rfl rfl) hP) rfl rfl hl.1 rfl (lv_room (Nat.le_of_ble_eq_true rfl)) dX3_playAt_24 ⟨Nat.zero_le _, Nat.zero_le _⟩) (fun r24 w24 => ?_)
    obtain rfl : r24 = 1 := (w24.trans (if_neg (by rw [h18.1]; exact nI_ne1 (by omega))))
    refine lv_if_eq (tgt := 54) hx hb dX3_playAt_27 (by decide) (fun b27 => absurd b27 (by decide)) (fun b27 => ?_)
    refine lv_iload_n hx hb dX3_playAt_30 rfl (lv_at hl 2 rfl) ?_
    refine lv_aload_n hx hb dX3_playAt_31 rfl (lv_at hl 0 rfl) ?_
    refine va_get (D := en.1) (ci := 3) (v := .ref (ad 5)) (C := RX3) (T := TX3) (N := 4) hx hb hts iw_X3_playAt_X3 hown hE.1 hP 2 rfl rfl 1 (by decide) (hts (.fieldLink RX3 12 "CreditGame$Values" "path" "LCreditGame$Path;") (by decide +kernel)) (fun _ h9 => h9) rfl dX3_playAt_32 ?_
    refine lv_iload_n hx hb dX3_playAt_35 rfl (lv_at hl 1 rfl) ?_
    refine ro_calli (va_runVN (As := [.int (nI j)]) (rest := [.int (nI π.length)]) ⟨hx, hb, hml, hown, hts⟩ (ct_stepsTo_p l en ad c j hj7) ⟨va_cnB 1 hts gX3_playAt_X2_stepsTo_n65 rfl rfl rfl (hE.2 _ (List.mem_of_getElem? (i := 40) rfl)) (hts (.initialized RX2) (by decide +kernel)) (by decide +kernel) ⟨by show 2 + 1 ≤ 2 * (k + 1) + 5; omega, by show 8 + (2 + 11) + 40 * (2) ≤ 40 * (2 * (k + 1) + 5); omega⟩, hts (.instanceMethod yX2_stepsTo) (by decide +kernel), hts (.selects RX2 yX2_stepsTo yX2_stepsTo) (by decide +kernel)⟩ (ct_preV hE (va_recv hE.1 hP (ci := 2) (q0 := 5) rfl rfl) hP) rfl rfl hl.1 rfl (lv_room (Nat.le_of_ble_eq_true rfl)) dX3_playAt_36 ⟨Nat.zero_le _, Nat.zero_le _⟩) (fun r36 w36 => ?_)
    obtain rfl : r36 = (nI (π.length - d)) := (w36.trans h18.1)
    refine lv_isub hx hb dX3_playAt_39 ?_
    refine lv_topi (fun z_39 ez_39 => ?_)
    obtain rfl : z_39 = (nI d) := (ez_39.trans (by rw [pk_sub (by omega)]; congr 1; omega))
    refine lv_iload_n hx hb dX3_playAt_40 rfl (lv_at hl 3 rfl) ?_
    refine lv_aload_n hx hb dX3_playAt_41 rfl (lv_at hl 0 rfl) ?_
    refine va_get (D := en.1) (ci := 3) (v := .ref (ad 5)) (C := RX3) (T := TX3) (N := 4) hx hb hts iw_X3_playAt_X3 hown hE.1 hP 2 rfl rfl 1 (by decide) (hts (.fieldLink RX3 12 "CreditGame$Values" "path" "LCreditGame$Path;") (by decide +kernel)) (fun _ h9 => h9) rfl dX3_playAt_42 ?_
    refine lv_iload_n hx hb dX3_playAt_45 rfl (lv_at hl 1 rfl) ?_
    refine ro_calli (va_runVN (As := [.int (nI j)]) (rest := [.int si, .int (nI d)]) ⟨hx, hb, hml, hown, hts⟩ (ct_sumTo_p l en ad c j hj7) ⟨va_cnB 1 hts gX3_playAt_X2_sumTo_n68 rfl rfl rfl (hE.2 _ (List.mem_of_getElem? (i := 41) rfl)) (hts (.initialized RX2) (by decide +kernel)) (by decide +kernel) ⟨by show 2 + 1 ≤ 2 * (k + 1) + 5; omega, by show 8 + (2 + 11) + 40 * (2) ≤ 40 * (2 * (k + 1) + 5); omega⟩, hts (.instanceMethod yX2_sumTo) (by decide +kernel), hts (.selects RX2 yX2_sumTo yX2_sumTo) (by decide +kernel)⟩ (ct_preV hE (va_recv hE.1 hP (ci := 2) (q0 := 5) rfl rfl) hP) rfl rfl hl.1 rfl (lv_room (Nat.le_of_ble_eq_true rfl)) dX3_playAt_46 ⟨Nat.zero_le _, Nat.zero_le _⟩) (fun r46 w46 => ?_)
    obtain rfl : r46 = (c 19 j) := w46
    refine lv_isub hx hb dX3_playAt_49 ?_
    refine lv_topi (fun x1 hx1 => ?_)
    have hx1i : x1.toInt = sm - s0 := by
      rw [hx1, i_sub (by rw [hs, h18.2]; omega) (by rw [hs, h18.2]; omega), hs, h18.2]
    refine ro_calli (va_runS (As := [.int (nI d), .int x1]) (rest := []) ⟨hx, hb, hml, hown, hts⟩ (ct_loopParts l en ad c d hd.1 (by omega) x1 (by omega) (by omega)) (va_cwS 2 hts gX3_playAt_X3_loopParts rfl rfl rfl (by decide +kernel) ⟨by show 1 + 1 ≤ 2 * (k + 1) + 5; omega, by show 8 + (2 + 11) + 40 * (1) ≤ 40 * (2 * (k + 1) + 5); omega⟩) (ct_preS hE trivial) rfl rfl hl.1 rfl (lv_room (Nat.le_of_ble_eq_true rfl)) dX3_playAt_50 ⟨Nat.zero_le _, Nat.zero_le _⟩) (fun r50 w50 => ?_)
    exact W.iret (v := r50) hx hb hr (fun t ht hW => ⟨⟨_, c, rfl, ⟨by rw [w50, hx1i]; have := gm_leaf_bd hd.1 (by omega : d ≤ 7) hnr.1 hnr.2; omega, by rw [vl_leaf hat, w50, hx1i]; exact ab_rf, kx.rf, hpr⟩, by show va_P _ _ _ t.heap; rw [ht]; exact hP⟩, hS.F ht⟩) hS.2.2 dX3_playAt_53
theorem ct_playAt (l : Launch) (en : en_T) (ad : Nat → Nat) (hI : xw_I ad) : ∀ k, pa_C l en ad k := by
  intro k
  induction k with
  | zero =>
    intro c sz G hg hc π j sm si lo hi hpr hok hk
    have h1 := gm_ok_len hok
    have h2 := hg.n7
    exact absurd hk (by omega)
  | succ k ih =>
    intro c sz G hg hc π j sm si lo hi hpr hok hk hj hne hs hb1 hb2 hlh hl1 hh1
    exact ct_playAt_step l en ad c hI sz k
      (fun c sz G hg hc π j sm si lo hi hpr hok hk hj hne hs hb1 hb2 hlh hl1 hh1 => ct_greatestPay l en ad c hI sz k ih hg hc π j sm si lo hi hpr hok hk hj hne hs hb1 hb2 hlh hl1 hh1)
      (fun c sz G hg hc π j sm si lo hi hpr hok hk hj hne hs hb1 hb2 hlh hl1 hh1 => ct_leastPay l en ad c hI sz k ih hg hc π j sm si lo hi hpr hok hk hj hne hs hb1 hb2 hlh hl1 hh1)
      hg hc π j sm si lo hi hpr hok hk hj hne hs hb1 hb2 hlh hl1 hh1
end
section
/-! ===== CreditGame$Values: find, findAll, the fraction ===== -/
/-- what is known of the values is right -/
def vi (G : gr_T) (c : Nat → Nat → Int32) : Prop := ∀ v, v < 7 → c 12 v = 0 ∨ (c 12 v = 1 ∧ gr_cpl G ∧ v < gr_n G ∧ (c 13 v).toInt = vl_F G v)
/-- all values are there -/
def va (G : gr_T) (c : Nat → Nat → Int32) : Prop := ∀ v, v < gr_n G → (c 13 v).toInt = vl_F G v
theorem gm_ok_nil {n : Nat} : gm_ok n [] := ⟨List.nodup_nil, fun q h => by cases h⟩
theorem gm_near_nil {x : Int} : gm_near [] x := fun u d s0 h => by simp [gm_at] at h
theorem pr_nil {c : Nat → Nat → Int32} (h : ∀ j, j < 7 → c 18 j = -1) : pr [] c := fun j hj => ⟨fun _ => h j hj, fun d s0 h => by simp [gm_at] at h⟩
theorem vl_F_bd {G : gr_T} (hg : gf_ok G) (hc : gr_cpl G) {j : Nat} (hj : j < gr_n G) : -3780 ≤ vl_F G j ∧ vl_F G j ≤ 3780 := vl_bd hg hc (by simp) gm_ok_nil hj gm_near_nil
theorem ab_in {P r : Int} (h : ab (-1000000 : Int32).toInt (1000000 : Int32).toInt P r) (h1 : -3780 ≤ P) (h2 : P ≤ 3780) : r = P := by
  rw [i_lo, i_hi] at h
  exact h.2.2 (by omega) (by omega)
theorem vi.set {G : gr_T} {c c' : Nat → Nat → Int32} {j : Nat} {x : Int32} (h : vi G c) (hc : gr_cpl G) (hj : j < gr_n G) (hx : x.toInt = vl_F G j) (e12 : c' 12 = upd (c 12) j (vp_nar .boolean 1)) (e13 : c' 13 = upd (c 13) j x) : vi G c' := by
  intro v hv
  rw [e12, e13]
  by_cases e : v = j
  · subst e
    rw [ud_at, ud_at]
    exact Or.inr ⟨rfl, hc, hj, hx⟩
  · rw [ud_ne e, ud_ne e]
    exact h v hv
/-- the denominator of P / 420 in lowest terms, where it is at most 7 -/
def vl_q (P : Int) : Nat := if P % 420 = 0 then 1 else if P * 2 % 420 = 0 then 2 else if P * 3 % 420 = 0 then 3 else if P * 4 % 420 = 0 then 4 else if P * 5 % 420 = 0 then 5 else if P * 6 % 420 = 0 then 6 else 7
def vl_t (P : Int) : Int := P * (vl_q P : Int) / 420
theorem vl_q_eq {P : Int} {d : Nat} (h1 : 1 ≤ d) (h7 : d ≤ 7) (hd : d < 7 → P * (d : Int) % 420 = 0) (hl : ∀ x : Nat, 1 ≤ x → x < d → ¬ P * (x : Int) % 420 = 0) : vl_q P = d := by
  have l1 := hl 1; have l2 := hl 2; have l3 := hl 3; have l4 := hl 4; have l5 := hl 5; have l6 := hl 6
  rcases (show d = 1 ∨ d = 2 ∨ d = 3 ∨ d = 4 ∨ d = 5 ∨ d = 6 ∨ d = 7 by omega) with rfl | rfl | rfl | rfl | rfl | rfl | rfl <;> unfold vl_q <;> (repeat' split) <;> omega
theorem vl_q_bd (P : Int) : 1 ≤ vl_q P ∧ vl_q P ≤ 7 := by
  unfold vl_q
  repeat' split
  all_goals omega
/-- the value's fraction is whole -/
theorem vl_q_dv {P x : Int} {d : Nat} (h1 : 1 ≤ d) (h7 : d ≤ 7) (h : P = ((420 / d : Nat) : Int) * x) : P * (vl_q P : Int) % 420 = 0 := by
  unfold vl_q
  rcases (show d = 1 ∨ d = 2 ∨ d = 3 ∨ d = 4 ∨ d = 5 ∨ d = 6 ∨ d = 7 by omega) with rfl | rfl | rfl | rfl | rfl | rfl | rfl <;> simp only [Nat.reduceDiv] at h <;> (repeat' split) <;> omega
theorem vl_F_dv {G : gr_T} (hg : gf_ok G) (hc : gr_cpl G) {j : Nat} (hj : j < gr_n G) : vl_F G j * (vl_q (vl_F G j) : Int) % 420 = 0 := by
  obtain ⟨d, x, h1, h2, h3, h4, h5⟩ := gm_pay_form (ow := gr_ow G) hg.1 hc.2 (gr_tgts hg) (gr_ws hg) 8 [] j 0 (by simp) gm_ok_nil hj gm_near_nil
  exact vl_q_dv h1 (by have := hg.1; omega) h5
theorem i_div420 {y : Int32} : (y / 420).toInt = y.toInt.tdiv 420 := by
  have h1 := Int32.toInt_lt y
  have h2 := Int32.le_toInt y
  have hsg : Int.sign 420 = 1 := by decide
  rw [Int32.toInt_div, i_420, Int.tdiv_eq_ediv]
  refine Int.bmod_eq_of_le ?_ ?_ <;> split <;> simp <;> omega
theorem i_rem420 {y : Int32} (h1 : -100000 ≤ y.toInt) (h2 : y.toInt ≤ 100000) : y - y / 420 * 420 = 0 ↔ y.toInt % 420 = 0 := by
  have e : (y / 420).toInt = y.toInt.tdiv 420 := i_div420
  have hq : -1000 ≤ (y / 420).toInt ∧ (y / 420).toInt ≤ 1000 ∧ (y.toInt - (y / 420).toInt * 420 = 0 ↔ y.toInt % 420 = 0) := by
    have hsg : Int.sign 420 = 1 := by decide
    rw [e, Int.tdiv_eq_ediv]
    split <;> rename_i hs <;> simp at hs ⊢ <;> omega
  have e2 : (y / 420 * 420).toInt = (y / 420).toInt * 420 := by
    rw [i_mul (by rw [i_420]; omega) (by rw [i_420]; omega), i_420]
  have e3 : (y - y / 420 * 420).toInt = y.toInt - (y / 420).toInt * 420 := by
    rw [i_sub (by rw [e2]; omega) (by rw [e2]; omega), e2]
  rw [← hq.2.2, ← e3]
  constructor
  · intro h; rw [h]; decide
  · intro h; exact i_eq (by rw [h]; decide)
theorem find_end {G : gr_T} {c c24 c40 c43 c50 : Nat → Nat → Int32} {f24 : Nat → Int32} {j : Nat} {r40 : Int32} (hv_ : vi G c) (hc : gr_cpl G) (hj : j < gr_n G) (hr : r40.toInt = vl_F G j) (e24 : c24 = va_up c 18 f24) (hk : kx [18, 19] c24 c40) (e43 : c43 = va_up c40 13 (upd (c40 13) j r40)) (e50 : c50 = va_up c43 12 (upd (c43 12) j (vp_nar .boolean 1))) :
    kx [12, 13, 18, 19] c c50 ∧ vi G c50 ∧ (j < gr_n G → c50 12 j = 1) ∧ ∀ i, i < 7 → c 12 i = 1 → c50 12 i = 1 := by
  have h24 : kx [12, 13, 18, 19] c c24 := by rw [e24]; exact kx.up (by decide)
  have h43 : kx [12, 13, 18, 19] c40 c43 := by rw [e43]; exact kx.up (by decide)
  have h50 : kx [12, 13, 18, 19] c43 c50 := by rw [e50]; exact kx.up (by decide)
  have a12 : c43 12 = c 12 := by
    have q1 : c24 12 = c 12 := by rw [e24]; rfl
    have q2 : c40 12 = c24 12 := hk 12 (by decide)
    have q3 : c43 12 = c40 12 := by rw [e43]; rfl
    rw [q3, q2, q1]
  have a13 : c40 13 = c 13 := by
    have q1 : c24 13 = c 13 := by rw [e24]; rfl
    have q2 : c40 13 = c24 13 := hk 13 (by decide)
    rw [q2, q1]
  have b12 : c50 12 = upd (c 12) j (vp_nar .boolean 1) := by rw [e50, up_at, a12]
  have b13 : c50 13 = upd (c 13) j r40 := by
    have q1 : c50 13 = c43 13 := by rw [e50]; rfl
    rw [q1, e43, up_at, a13]
  refine ⟨((h24.tr (hk.wide (by decide))).tr h43).tr h50, hv_.set hc hj hr b12 b13, fun _ => by rw [b12, ud_at]; rfl, fun i hi q => ?_⟩
  rw [b12]
  by_cases e : i = j
  · rw [e, ud_at]; rfl
  · rw [ud_ne e]; exact q
theorem iw_X3_find_X3 : ∀ w ∈ wsX30, w ∈ wsX3_find := by decide +kernel
set_option maxHeartbeats 4000000 in
set_option maxRecDepth 100000 in
/--  -/
theorem ct_find (l : Launch) (en : en_T) (ad : Nat → Nat) (c : Nat → Nat → Int32) (hI : xw_I ad) (sz : Nat) {G : gr_T} (hg : gi G c) (hc : gr_cpl G) (hv_ : vi G c) (j : Nat) (hj7 : j < 7) : Met l yX3_find wsX3_find (rm_ 25 0 0) (ct_Pc en [.ref (ad 2), .int (nI j)] (fun H => H.size = sz ∧ va_P en.1 vwCl (xw en ad c) H)) (va_Qv (fun c' => kx [12, 13, 18, 19] c c' ∧ vi G c' ∧ (j < gr_n G → c' 12 j = 1) ∧ ∀ i, i < 7 → c 12 i = 1 → c' 12 i = 1) (fun c' t => va_P en.1 vwCl (xw en ad c') t.heap) (xw_A ad sz)) 0 0 (xw_A ad sz) := by
  refine Met.ofW (cc := cX3_find) (maxL := 2) (ret := none) (by decide) rfl ?_
  intro p e s m args below meth co s₁ B hml hv
  obtain ⟨rfl, hE, hsz, hP⟩ := hv
  subst hsz
  have hx := B.exec
  have hb := B.bytes
  have hr := B.returns
  have hts := atoms_spec (ws := wsX3_find) B.pre
  have hown : s.vm.findClass RX3 = some m.cls := findClass_of_methodNamed B.named
  have hlocks := B.notSynchronized
  have hS : va_S (xw_A ad s.heap.size) s.heap s.heap [] := va_S.rf
  have hl := lv_entry ([.ref (ad 2), .int (nI j)]) (n := 2) (Nat.le_of_ble_eq_true rfl)
  rw [lg_entry_eq]
  generalize (lg_sl ([.ref (ad 2), .int (nI j)]) ++ List.replicate (2 - (lg_sl ([.ref (ad 2), .int (nI j)])).length) Slot.unset).toArray = ls at hl ⊢
  have hl : lv_has ls 2 [(0, .ref (ad 2)), (1, .int (nI j))] := hl
  refine lv_aload_n hx hb dX3_find_0 rfl (lv_at hl 0 rfl) ?_
  refine va_get (D := en.1) (ci := 3) (v := .ref (ad 1)) (C := RX3) (T := TX3) (N := 4) hx hb hts iw_X3_find_X3 hown hE.1 hP 2 rfl rfl 0 (by decide) (hts (.fieldLink RX3 26 "CreditGame$Values" "graph" "LCreditGame$Graph;") (by decide +kernel)) (fun _ h9 => h9) rfl dX3_find_1 ?_
  refine lv_iload_n hx hb dX3_find_4 rfl (lv_at hl 1 rfl) ?_
  refine ro_calli (va_runVN (As := [.int (nI j)]) (rest := []) ⟨hx, hb, hml, hown, hts⟩ (ct_hasVertex l en ad c hg (nI j)) ⟨va_cnB 1 hts gX3_find_X1_hasVertex_n34 rfl rfl rfl (hE.2 _ (List.mem_of_getElem? (i := 37) rfl)) (hts (.initialized RX1) (by decide +kernel)) (by decide +kernel) ⟨Nat.le_of_ble_eq_true rfl, Nat.le_of_ble_eq_true rfl⟩, hts (.instanceMethod yX1_hasVertex) (by decide +kernel), hts (.selects RX1 yX1_hasVertex yX1_hasVertex) (by decide +kernel)⟩ (ct_preV hE (va_recv hE.1 hP (ci := 1) (q0 := 1) rfl rfl) hP) rfl rfl hl.1 rfl (lv_room (Nat.le_of_ble_eq_true rfl)) dX3_find_5 ⟨Nat.le_of_ble_eq_true rfl, Nat.le_of_ble_eq_true rfl⟩) (fun r5 w5 => ?_)
  refine lv_if_eq (tgt := 51) hx hb dX3_find_8 (by decide) (fun b8 => ?_) (fun b8 => ?_)
  · skip
    exact W.vret hx hb hr (fun t ht hW => ⟨⟨c, rfl, (by first | exact ⟨kx.rf, hv_, fun q => absurd q (hv_nlt w5 b8), fun i _ q => q⟩ | exact ⟨kx.rf, hv_, fun _ => hk12, fun i _ q => q⟩ | exact find_end hv_ hc hj hr40 e24 w40.2.2.1 ec43 ec50), by show va_P _ _ _ t.heap; rw [ht]; exact hP⟩, hS.F ht⟩) hS.2.2 dX3_find_51
  · skip
    have hj := hv_lt hg.n7 (by omega) w5 b8
    refine lv_aload_n hx hb dX3_find_11 rfl (lv_at hl 0 rfl) ?_
    refine va_get (D := en.1) (ci := 3) (v := .ref (ad 12)) (C := RX3) (T := TX3) (N := 4) hx hb hts iw_X3_find_X3 hown hE.1 hP 2 rfl rfl 2 (by decide) (hts (.fieldLink RX3 18 "CreditGame$Values" "known" "[Z") (by decide +kernel)) (fun _ h9 => h9) rfl dX3_find_12 ?_
    refine lv_iload_n hx hb dX3_find_15 rfl (lv_at hl 1 rfl) ?_
    refine xr_zld hx hb hE hP j rfl (by omega) dX3_find_16 ?_
    refine lv_if_ne (tgt := 51) hx hb dX3_find_17 (by decide) (fun b17 => ?_) (fun b17 => ?_)
    · skip
      have hk12 : c 12 j = 1 := by
        rcases hv_ j hj7 with q | q
        · exact absurd q b17
        · exact q.1
      exact W.vret hx hb hr (fun t ht hW => ⟨⟨c, rfl, (by first | exact ⟨kx.rf, hv_, fun q => absurd q (hv_nlt w5 b8), fun i _ q => q⟩ | exact ⟨kx.rf, hv_, fun _ => hk12, fun i _ q => q⟩ | exact find_end hv_ hc hj hr40 e24 w40.2.2.1 ec43 ec50), by show va_P _ _ _ t.heap; rw [ht]; exact hP⟩, hS.F ht⟩) hS.2.2 dX3_find_51
    · skip
      refine lv_aload_n hx hb dX3_find_20 rfl (lv_at hl 0 rfl) ?_
      refine va_get (D := en.1) (ci := 3) (v := .ref (ad 5)) (C := RX3) (T := TX3) (N := 4) hx hb hts iw_X3_find_X3 hown hE.1 hP 2 rfl rfl 1 (by decide) (hts (.fieldLink RX3 12 "CreditGame$Values" "path" "LCreditGame$Path;") (by decide +kernel)) (fun _ h9 => h9) rfl dX3_find_21 ?_
      refine xr_callv (va_runVN (As := []) (rest := []) ⟨hx, hb, hml, hown, hts⟩ (ct_clear_p l en ad c hI _) ⟨va_cnB 0 hts gX3_find_X2_clear_n40 rfl rfl rfl (hE.2 _ (List.mem_of_getElem? (i := 38) rfl)) (hts (.initialized RX2) (by decide +kernel)) (by decide +kernel) ⟨Nat.le_of_ble_eq_true rfl, Nat.le_of_ble_eq_true rfl⟩, hts (.instanceMethod yX2_clear) (by decide +kernel), hts (.selects RX2 yX2_clear yX2_clear) (by decide +kernel)⟩ (ct_preV hE (va_recv hE.1 hP (ci := 2) (q0 := 5) rfl rfl) ⟨rfl, hP⟩) rfl rfl hl.1 rfl (lv_room (Nat.le_of_ble_eq_true rfl)) dX3_find_24 ⟨Nat.le_of_ble_eq_true rfl, Nat.le_of_ble_eq_true rfl⟩) hS (fun c24 H locs w24 hP hS => ?_)
      obtain ⟨f24, e24, hf24⟩ := w24
      have hg1 : gi G c24 := by rw [e24]; exact hg.up (by omega)
      have hpr : pr [] c24 := pr_nil (fun j h => by rw [e24]; exact hf24 j h)
      refine lv_aload_n hx hb dX3_find_27 rfl (lv_at hl 0 rfl) ?_
      refine va_get (D := en.1) (ci := 3) (v := .ref (ad 13)) (C := RX3) (T := TX3) (N := 4) hx hb hts iw_X3_find_X3 hown hE.1 hP 2 rfl rfl 3 (by decide) (hts (.fieldLink RX3 22 "CreditGame$Values" "parts" "[I") (by decide +kernel)) (fun _ h9 => h9) rfl dX3_find_28 ?_
      refine lv_iload_n hx hb dX3_find_31 rfl (lv_at hl 1 rfl) ?_
      refine lv_aload_n hx hb dX3_find_32 rfl (lv_at hl 0 rfl) ?_
      refine lv_iload_n hx hb dX3_find_33 rfl (lv_at hl 1 rfl) ?_
      refine lv_iconst (v := (nI 0)) hx hb dX3_find_34 (by decide) ?_
      refine lv_iconst (v := 0) hx hb dX3_find_35 (by decide) ?_
      refine lv_ldc (own := RX3) (v := (-1000000)) hx hb hown (hts (.constant RX3 43 (-1000000)) (by decide +kernel)) dX3_find_36 ?_
      refine lv_ldc (own := RX3) (v := 1000000) hx hb hown (hts (.constant RX3 44 (1000000)) (by decide +kernel)) dX3_find_38 ?_
      refine xr_calli (va_runV (As := [.int (nI j), .int (nI 0), .int 0, .int (-1000000), .int 1000000]) (rest := [.int (nI j), .ref (ad 13)]) ⟨hx, hb, hml, hown, hts⟩ ((ct_playAt l en ad hI 8) c24 _ hg1 hc [] j 0 0 (-1000000) 1000000 hpr gm_ok_nil (by simp) hj gm_near_nil i_0 (by simp) (by simp) (by decide) (by decide) (by decide)) (cwV 5 hts gX3_find_X3_playAt rfl rfl rfl (by decide +kernel) ⟨Nat.le_of_ble_eq_true rfl, Nat.le_of_ble_eq_true rfl⟩) (ct_preV hE (va_recv hE.1 hP (ci := 3) (q0 := 2) rfl rfl) ⟨rfl, hP⟩) rfl rfl hl.1 rfl (lv_room (Nat.le_of_ble_eq_true rfl)) dX3_find_40 ⟨Nat.le_of_ble_eq_true rfl, Nat.le_of_ble_eq_true rfl⟩) hS (fun r40 c40 H locs w40 hP hS => ?_)
      have hr40 := ab_in w40.2.1 (vl_F_bd hg.ok hc hj).1 (vl_F_bd hg.ok hc hj).2
      refine xr_ist hx hb hE hP hI hS 13 (by decide) j rfl (show _ < 7 by omega) dX3_find_43 (fun H locs hP hS => ?_)
      obtain ⟨c43, ec43⟩ : ∃ z : Nat → Nat → Int32, z = va_up c40 13 (upd (c40 13) j r40) := ⟨_, rfl⟩
      rw [← ec43] at hP
      refine lv_aload_n hx hb dX3_find_44 rfl (lv_at hl 0 rfl) ?_
      refine va_get (D := en.1) (ci := 3) (v := .ref (ad 12)) (C := RX3) (T := TX3) (N := 4) hx hb hts iw_X3_find_X3 hown hE.1 hP 2 rfl rfl 2 (by decide) (hts (.fieldLink RX3 18 "CreditGame$Values" "known" "[Z") (by decide +kernel)) (fun _ h9 => h9) rfl dX3_find_45 ?_
      refine lv_iload_n hx hb dX3_find_48 rfl (lv_at hl 1 rfl) ?_
      refine lv_iconst (v := 1) hx hb dX3_find_49 (by decide) ?_
      refine xr_zst hx hb hE hP hI hS j rfl (by omega) dX3_find_50 (fun H locs hP hS => ?_)
      obtain ⟨c50, ec50⟩ : ∃ z : Nat → Nat → Int32, z = va_up c43 12 (upd (c43 12) j (vp_nar .boolean 1)) := ⟨_, rfl⟩
      rw [← ec50] at hP
      exact W.vret hx hb hr (fun t ht hW => ⟨⟨c50, rfl, (by first | exact ⟨kx.rf, hv_, fun q => absurd q (hv_nlt w5 b8), fun i _ q => q⟩ | exact ⟨kx.rf, hv_, fun _ => hk12, fun i _ q => q⟩ | exact find_end hv_ hc hj hr40 e24 w40.2.2.1 ec43 ec50), by show va_P _ _ _ t.heap; rw [ht]; exact hP⟩, hS.F ht⟩) hS.2.2 dX3_find_51
set_option maxHeartbeats 4000000 in
set_option maxRecDepth 100000 in
/--  -/
theorem ct_findAll (l : Launch) (en : en_T) (ad : Nat → Nat) (c : Nat → Nat → Int32) (hI : xw_I ad) (sz : Nat) {G : gr_T} (hg : gi G c) (hc : gr_cpl G) (hv_ : vi G c) : Met l yX3_findAll wsX3_findAll (rm_ 26 0 0) (ct_Pc en [.ref (ad 2)] (fun H => H.size = sz ∧ va_P en.1 vwCl (xw en ad c) H)) (va_Qv (fun c' => kx [12, 13, 18, 19] c c' ∧ vi G c' ∧ ∀ v, v < gr_n G → c' 12 v = 1) (fun c' t => va_P en.1 vwCl (xw en ad c') t.heap) (xw_A ad sz)) 0 0 (xw_A ad sz) := by
  refine Met.ofW (cc := cX3_findAll) (maxL := 2) (ret := none) (by decide) rfl ?_
  intro p e s m args below meth co s₁ B hml hv
  obtain ⟨rfl, hE, hsz, hP⟩ := hv
  subst hsz
  have hx := B.exec
  have hb := B.bytes
  have hr := B.returns
  have hts := atoms_spec (ws := wsX3_findAll) B.pre
  have hown : s.vm.findClass RX3 = some m.cls := findClass_of_methodNamed B.named
  have hlocks := B.notSynchronized
  have hS : va_S (xw_A ad s.heap.size) s.heap s.heap [] := va_S.rf
  have hl := lv_entry ([.ref (ad 2)]) (n := 2) (Nat.le_of_ble_eq_true rfl)
  rw [lg_entry_eq]
  generalize (lg_sl ([.ref (ad 2)]) ++ List.replicate (2 - (lg_sl ([.ref (ad 2)])).length) Slot.unset).toArray = ls at hl ⊢
  have hl : lv_has ls 2 [(0, .ref (ad 2))] := hl
  refine lv_iconst (v := (nI 0)) hx hb dX3_findAll_0 (by decide) ?_
  refine lv_istore_n (lv' := [(1, .int (nI 0)), (0, .ref (ad 2))]) hx hb dX3_findAll_1 rfl hl (by decide) rfl (fun ls hl => ?_)
  have key2 : ∀ (n_ : Nat) (i : Nat) (c_ : Nat → Nat → Int32) (H : Heap) (locs : List Loc) (ls : Array Slot), i ≤ 7 → 7 + 1 ≤ i + n_ → gi G c_ → kx [12, 13, 18, 19] c c_ → vi G c_ → (∀ v, v < i → v < gr_n G → c_ 12 v = 1) → va_P en.1 vwCl (xw en ad c_) H → va_S (xw_A ad s.heap.size) s.heap H locs → lv_has ls 2 [(0, .ref (ad 2)), (1, .int (nI i))] → W p l e (headSpec wsX3_findAll (rm_ 26 0 0)).room s m ([.ref (ad 2)] : List Value).toArray below meth co H locs 0 0 (MQ below (va_Qv (fun c' => kx [12, 13, 18, 19] c c' ∧ vi G c' ∧ ∀ v, v < gr_n G → c' 12 v = 1) (fun c' t => va_P en.1 vwCl (xw en ad c') t.heap) (xw_A ad s.heap.size)) ([.ref (ad 2)] : List Value).toArray s 0 0 (xw_A ad s.heap.size)) (F0 m 2 ls []) := by
    intro n_
    induction n_ with
    | zero =>
      intro i c_ H locs ls hi_ hin hg hkc hv_ hf hP hS hl
      exact absurd hin (by omega)
    | succ n_ ih2 =>
      intro i c_ H locs ls hi_ hin hg hkc hv_ hf hP hS hl
      refine lv_iload_n hx hb dX3_findAll_2 rfl (lv_at hl 1 rfl) ?_
      refine lv_bipush (v := (nI 7)) hx hb dX3_findAll_3 (by decide) ?_
      refine lv_icmp_ge (tgt := 19) hx hb dX3_findAll_5 (by decide) (fun b5 => ?_) (fun b5 => ?_)
      · skip
        have hin2 : i = 7 := by
          rcases Nat.lt_or_ge i 7 with q | q
          · exact absurd b5 (nI_ge q (by omega))
          · omega
        subst hin2
        exact W.vret hx hb hr (fun t ht hW => ⟨⟨c_, rfl, ⟨hkc, hv_, fun v h => hf v (by have := hg.n7; omega) h⟩, by show va_P _ _ _ t.heap; rw [ht]; exact hP⟩, hS.F ht⟩) hS.2.2 dX3_findAll_19
      · skip
        have hlt : i < 7 := by
          rcases Nat.lt_or_ge i 7 with q | q
          · exact q
          · exact absurd (nI_le q (by omega)) b5
        refine lv_aload_n hx hb dX3_findAll_8 rfl (lv_at hl 0 rfl) ?_
        refine lv_iload_n hx hb dX3_findAll_9 rfl (lv_at hl 1 rfl) ?_
        refine xr_callv (va_runV (As := [.int (nI i)]) (rest := []) ⟨hx, hb, hml, hown, hts⟩ (ct_find l en ad c_ hI _ hg hc hv_ i hlt) (cwV 1 hts gX3_findAll_X3_find rfl rfl rfl (by decide +kernel) ⟨Nat.le_of_ble_eq_true rfl, Nat.le_of_ble_eq_true rfl⟩) (ct_preV hE (va_recv hE.1 hP (ci := 3) (q0 := 2) rfl rfl) ⟨rfl, hP⟩) rfl rfl hl.1 rfl (lv_room (Nat.le_of_ble_eq_true rfl)) dX3_findAll_10 ⟨Nat.le_of_ble_eq_true rfl, Nat.le_of_ble_eq_true rfl⟩) hS (fun c10 H locs w10 hP hS => ?_)
        refine lv_iinc (v := (nI (i + 1))) (lv' := [(1, .int (nI (i + 1))), (0, .ref (ad 2))]) hx hb dX3_findAll_13 hl (k := 1) rfl (nI_1 _) (by decide) rfl (fun ls hl => ?_)
        refine lv_goto (tgt := 2) hx hb dX3_findAll_16 (by decide) ?_
        exact ih2 (i + 1) c10 _ _ _ (by omega) (by omega) (hg.kx w10.1 (by decide)) (hkc.tr w10.1) w10.2.1 (fun v h hn => by by_cases e : v = i; rw [e]; exact w10.2.2.1 (e ▸ hn); exact w10.2.2.2 v (by omega) (hf v (by omega) hn)) hP hS (lv_sub hl [1, 0] rfl)
  exact key2 (7 + 1) 0 c _ _ _ (by omega) (by omega) hg kx.rf hv_ (fun v h => absurd h (Nat.not_lt_zero v)) hP hS (lv_sub hl [1, 0] rfl)
set_option maxHeartbeats 4000000 in
set_option maxRecDepth 100000 in
/--  -/
theorem ct_bottomOf (l : Launch) (en : en_T) (ad : Nat → Nat) (c : Nat → Nat → Int32) {G : gr_T} (hg : gi G c) (j : Nat) (hj : j < gr_n G) (P : Int) (hP13 : (c 13 j).toInt = P) (hb1 : -3780 ≤ P) (hb2 : P ≤ 3780) : Met l yX3_bottomOf wsX3_bottomOf (rm_ 5 0 0) (ct_Pc en [.ref (ad 2), .int (nI j)] (fun H => va_P en.1 vwCl (xw en ad c) H)) (ro_Qi (fun r => r = nI (vl_q P))) 0 0 (fun _ => False) := by
  refine Met.ofW (cc := cX3_bottomOf) (maxL := 3) (ret := (some .int)) (by decide) rfl ?_
  intro p e s m args below meth co s₁ B hml hv
  obtain ⟨rfl, hE, hP⟩ := hv
  have hx := B.exec
  have hb := B.bytes
  have hr := B.returns
  have hts := atoms_spec (ws := wsX3_bottomOf) B.pre
  have hown : s.vm.findClass RX3 = some m.cls := findClass_of_methodNamed B.named
  have hlocks := B.notSynchronized
  have hl := lv_entry ([.ref (ad 2), .int (nI j)]) (n := 3) (Nat.le_of_ble_eq_true rfl)
  rw [lg_entry_eq]
  generalize (lg_sl ([.ref (ad 2), .int (nI j)]) ++ List.replicate (3 - (lg_sl ([.ref (ad 2), .int (nI j)])).length) Slot.unset).toArray = ls at hl ⊢
  have hl : lv_has ls 3 [(0, .ref (ad 2)), (1, .int (nI j))] := hl
  refine lv_iconst (v := (nI 1)) hx hb dX3_bottomOf_0 (by decide) ?_
  refine lv_istore_n (lv' := [(2, .int (nI 1)), (0, .ref (ad 2)), (1, .int (nI j))]) hx hb dX3_bottomOf_1 rfl hl (by decide) rfl (fun ls hl => ?_)
  have key2 : ∀ (n_ : Nat) (i : Nat) (ls : Array Slot), i ≤ 7 → 1 ≤ i → 7 + 1 ≤ i + n_ → (∀ x : Nat, 1 ≤ x → x < i → ¬ P * (x : Int) % 420 = 0) → lv_has ls 3 [(0, .ref (ad 2)), (1, .int (nI j)), (2, .int (nI i))] → W p l e (headSpec wsX3_bottomOf (rm_ 5 0 0)).room s m ([.ref (ad 2), .int (nI j)] : List Value).toArray below meth co s.heap [] 0 0 (MQ below (ro_Qi (fun r => r = nI (vl_q P))) ([.ref (ad 2), .int (nI j)] : List Value).toArray s 0 0 (fun _ => False)) (F0 m 2 ls []) := by
    intro n_
    induction n_ with
    | zero =>
      intro i ls hi_ hi1 hin hl_ hl
      exact absurd hin (by omega)
    | succ n_ ih2 =>
      intro i ls hi_ hi1 hin hl_ hl
      refine lv_iload_n hx hb dX3_bottomOf_2 rfl (lv_at hl 2 rfl) ?_
      refine lv_bipush (v := (nI 7)) hx hb dX3_bottomOf_3 (by decide) ?_
      refine lv_icmp_ge (tgt := 30) hx hb dX3_bottomOf_5 (by decide) (fun b5 => ?_) (fun b5 => ?_)
      · skip
        have hin2 : i = 7 := by
          rcases Nat.lt_or_ge i 7 with q | q
          · exact absurd b5 (nI_ge q (by omega))
          · omega
        subst hin2
        refine lv_bipush (v := (nI 7)) hx hb dX3_bottomOf_30 (by decide) ?_
        exact W.iret (v := (nI 7)) hx hb hr (fun t ht hW => ⟨_, rfl, (by rw [vl_q_eq hi1 hi_ (fun q => absurd q (by omega)) hl_]), ht⟩) (fun q h => by cases h) dX3_bottomOf_32
      · skip
        have hlt : i < 7 := by
          rcases Nat.lt_or_ge i 7 with q | q
          · exact q
          · exact absurd (nI_le q (by omega)) b5
        refine lv_aload_n hx hb dX3_bottomOf_8 rfl (lv_at hl 0 rfl) ?_
        refine lv_iload_n hx hb dX3_bottomOf_9 rfl (lv_at hl 1 rfl) ?_
        refine ro_calli (va_runV (As := [.int (nI j)]) (rest := []) ⟨hx, hb, hml, hown, hts⟩ (ct_partsOf l en ad c hg j (by have := hg.n7; omega)) (cwV 1 hts gX3_bottomOf_X3_partsOf rfl rfl rfl (by decide +kernel) ⟨Nat.le_of_ble_eq_true rfl, Nat.le_of_ble_eq_true rfl⟩) (ct_preV hE (va_recv hE.1 hP (ci := 3) (q0 := 2) rfl rfl) hP) rfl rfl hl.1 rfl (lv_room (Nat.le_of_ble_eq_true rfl)) dX3_bottomOf_10 ⟨Nat.le_of_ble_eq_true rfl, Nat.le_of_ble_eq_true rfl⟩) (fun r10 w10 => ?_)
        obtain rfl : r10 = (c 13 j) := (w10.trans (if_pos hj))
        refine lv_iload_n hx hb dX3_bottomOf_13 rfl (lv_at hl 2 rfl) ?_
        refine lv_imul hx hb dX3_bottomOf_14 ?_
        refine lv_topi (fun y1 hy1 => ?_)
        have hy1i : y1.toInt = P * (i : Int) := by
          have hb3 : -26460 ≤ P * (i : Int) ∧ P * (i : Int) ≤ 26460 := by
            rcases (show i = 1 ∨ i = 2 ∨ i = 3 ∨ i = 4 ∨ i = 5 ∨ i = 6 by omega) with rfl | rfl | rfl | rfl | rfl | rfl <;> simp <;> omega
          rw [hy1, i_mul (by rw [hP13, nI_toInt (by omega)]; omega) (by rw [hP13, nI_toInt (by omega)]; omega), hP13, nI_toInt (by omega)]
        have hrem := i_rem420 (y := y1) (by rw [hy1i]; rcases (show i = 1 ∨ i = 2 ∨ i = 3 ∨ i = 4 ∨ i = 5 ∨ i = 6 by omega) with rfl | rfl | rfl | rfl | rfl | rfl <;> simp <;> omega) (by rw [hy1i]; rcases (show i = 1 ∨ i = 2 ∨ i = 3 ∨ i = 4 ∨ i = 5 ∨ i = 6 by omega) with rfl | rfl | rfl | rfl | rfl | rfl <;> simp <;> omega)
        rw [hy1i] at hrem
        refine lv_sipush (v := 420) hx hb dX3_bottomOf_15 (by decide) ?_
        refine lv_irem hx hb dX3_bottomOf_18 (by decide) ?_
        refine lv_if_ne (tgt := 24) hx hb dX3_bottomOf_19 (by decide) (fun b19 => ?_) (fun b19 => ?_)
        · skip
          refine lv_iinc (v := (nI (i + 1))) (lv' := [(2, .int (nI (i + 1))), (0, .ref (ad 2)), (1, .int (nI j))]) hx hb dX3_bottomOf_24 hl (k := 2) rfl (nI_1 _) (by decide) rfl (fun ls hl => ?_)
          refine lv_goto (tgt := 2) hx hb dX3_bottomOf_27 (by decide) ?_
          exact ih2 (i + 1) _ (by omega) (by omega) (by omega) (fun x h1 h2 => by by_cases e : x = i; rw [e]; exact fun q => b19 (hrem.mpr q); exact hl_ x h1 (by omega)) (lv_sub hl [1, 2, 0] rfl)
        · skip
          refine lv_iload_n hx hb dX3_bottomOf_22 rfl (lv_at hl 2 rfl) ?_
          exact W.iret (v := (nI i)) hx hb hr (fun t ht hW => ⟨_, rfl, (by rw [vl_q_eq hi1 hi_ (fun _ => hrem.mp b19) hl_]), ht⟩) (fun q h => by cases h) dX3_bottomOf_23
  exact key2 (7 + 1) 1 _ (by omega) (by omega) (by omega) (fun x h1 h2 => absurd h2 (by omega)) (lv_sub hl [1, 2, 0] rfl)
set_option maxHeartbeats 4000000 in
set_option maxRecDepth 100000 in
/--  -/
theorem ct_topOf (l : Launch) (en : en_T) (ad : Nat → Nat) (c : Nat → Nat → Int32) {G : gr_T} (hg : gi G c) (j : Nat) (hj : j < gr_n G) (P : Int) (hP13 : (c 13 j).toInt = P) (hb1 : -3780 ≤ P) (hb2 : P ≤ 3780) (hdv : P * (vl_q P : Int) % 420 = 0) : Met l yX3_topOf wsX3_topOf (rm_ 6 0 0) (ct_Pc en [.ref (ad 2), .int (nI j)] (fun H => va_P en.1 vwCl (xw en ad c) H)) (ro_Qi (fun r => r.toInt = vl_t P)) 0 0 (fun _ => False) := by
  refine Met.ofW (cc := cX3_topOf) (maxL := 2) (ret := (some .int)) (by decide) rfl ?_
  intro p e s m args below meth co s₁ B hml hv
  obtain ⟨rfl, hE, hP⟩ := hv
  have hx := B.exec
  have hb := B.bytes
  have hr := B.returns
  have hts := atoms_spec (ws := wsX3_topOf) B.pre
  have hown : s.vm.findClass RX3 = some m.cls := findClass_of_methodNamed B.named
  have hlocks := B.notSynchronized
  have hl := lv_entry ([.ref (ad 2), .int (nI j)]) (n := 2) (Nat.le_of_ble_eq_true rfl)
  rw [lg_entry_eq]
  generalize (lg_sl ([.ref (ad 2), .int (nI j)]) ++ List.replicate (2 - (lg_sl ([.ref (ad 2), .int (nI j)])).length) Slot.unset).toArray = ls at hl ⊢
  have hl : lv_has ls 2 [(0, .ref (ad 2)), (1, .int (nI j))] := hl
  refine lv_aload_n hx hb dX3_topOf_0 rfl (lv_at hl 0 rfl) ?_
  refine lv_iload_n hx hb dX3_topOf_1 rfl (lv_at hl 1 rfl) ?_
  refine ro_calli (va_runV (As := [.int (nI j)]) (rest := []) ⟨hx, hb, hml, hown, hts⟩ (ct_partsOf l en ad c hg j (by have := hg.n7; omega)) (cwV 1 hts gX3_topOf_X3_partsOf rfl rfl rfl (by decide +kernel) ⟨Nat.le_of_ble_eq_true rfl, Nat.le_of_ble_eq_true rfl⟩) (ct_preV hE (va_recv hE.1 hP (ci := 3) (q0 := 2) rfl rfl) hP) rfl rfl hl.1 rfl (lv_room (Nat.le_of_ble_eq_true rfl)) dX3_topOf_2 ⟨Nat.le_of_ble_eq_true rfl, Nat.le_of_ble_eq_true rfl⟩) (fun r2 w2 => ?_)
  obtain rfl : r2 = (c 13 j) := (w2.trans (if_pos hj))
  refine lv_aload_n hx hb dX3_topOf_5 rfl (lv_at hl 0 rfl) ?_
  refine lv_iload_n hx hb dX3_topOf_6 rfl (lv_at hl 1 rfl) ?_
  refine ro_calli (va_runV (As := [.int (nI j)]) (rest := [.int (c 13 j)]) ⟨hx, hb, hml, hown, hts⟩ (ct_bottomOf l en ad c hg j hj P hP13 hb1 hb2) (cwV 1 hts gX3_topOf_X3_bottomOf rfl rfl rfl (by decide +kernel) ⟨Nat.le_of_ble_eq_true rfl, Nat.le_of_ble_eq_true rfl⟩) (ct_preV hE (va_recv hE.1 hP (ci := 3) (q0 := 2) rfl rfl) hP) rfl rfl hl.1 rfl (lv_room (Nat.le_of_ble_eq_true rfl)) dX3_topOf_7 ⟨Nat.le_of_ble_eq_true rfl, Nat.le_of_ble_eq_true rfl⟩) (fun r7 w7 => ?_)
  obtain rfl : r7 = (nI (vl_q P)) := w7
  refine lv_imul hx hb dX3_topOf_10 ?_
  refine lv_topi (fun y1 hy1 => ?_)
  have hq7 := vl_q_bd P
  have hb3 : -26460 ≤ P * (vl_q P : Int) ∧ P * (vl_q P : Int) ≤ 26460 := by
    generalize vl_q P = q at hq7
    rcases (show q = 1 ∨ q = 2 ∨ q = 3 ∨ q = 4 ∨ q = 5 ∨ q = 6 ∨ q = 7 by omega) with rfl | rfl | rfl | rfl | rfl | rfl | rfl <;> simp <;> omega
  have hy1i : y1.toInt = P * (vl_q P : Int) := by
    rw [hy1, i_mul (by rw [hP13, nI_toInt (by omega)]; omega) (by rw [hP13, nI_toInt (by omega)]; omega), hP13, nI_toInt (by omega)]
  refine lv_sipush (v := 420) hx hb dX3_topOf_11 (by decide) ?_
  refine lv_idiv hx hb dX3_topOf_14 (by decide) ?_
  exact W.iret (v := (y1 / 420)) hx hb hr (fun t ht hW => ⟨_, rfl, (by show (y1 / 420).toInt = vl_t P; rw [i_div420, hy1i, Int.tdiv_eq_ediv, if_pos (Or.inr (Int.dvd_of_emod_eq_zero hdv)), Int.add_zero]; rfl), ht⟩) (fun q h => by cases h) dX3_topOf_15
end
section
/-! ===== credits: what the sweeps keep ===== -/
/-- the least (sp) or the most that is enough for one of the edges L; -1 if none leads to a credit -/
def en_P (L : List Nat) (tgt : Nat → Nat) (f g : Nat → Int) (sp : Bool) (r : Int) : Prop :=
  (r = -1 ∧ ∀ x ∈ L, f (tgt x) = -1) ∨ (∃ x ∈ L, f (tgt x) ≠ -1 ∧ r = max 0 (f (tgt x) - g x) ∧ ∀ y ∈ L, f (tgt y) ≠ -1 → (sp = true → r ≤ max 0 (f (tgt y) - g y)) ∧ (sp = false → max 0 (f (tgt y) - g y) ≤ r))
theorem en_nil {tgt : Nat → Nat} {f g : Nat → Int} {sp : Bool} : en_P [] tgt f g sp (-1) := Or.inl ⟨rfl, fun x h => by cases h⟩
theorem en_pos {L : List Nat} {tgt : Nat → Nat} {f g : Nat → Int} {sp : Bool} {r : Int} (h : en_P L tgt f g sp r) : -1 ≤ r := by
  rcases h with ⟨h, -⟩ | ⟨x, -, -, h, -⟩ <;> omega
theorem en_take {L : List Nat} {tgt : Nat → Nat} {f g : Nat → Int} {sp : Bool} {r b : Int} {x : Nat} (h : en_P L tgt f g sp r) (hb : b = if f (tgt x) = -1 then -1 else max 0 (f (tgt x) - g x)) (h1 : b ≠ -1) (h2 : r = -1 ∨ ((sp = true → b ≤ r) ∧ (sp = false → r ≤ b))) : en_P (L ++ [x]) tgt f g sp b := by
  have hx : f (tgt x) ≠ -1 := fun q => h1 (by rw [hb, if_pos q])
  rw [if_neg hx] at hb
  refine Or.inr ⟨x, by simp, hx, hb, fun y hy hfy => ?_⟩
  rcases List.mem_append.mp hy with hy | hy
  · rcases h with ⟨hr, hall⟩ | ⟨z, hz, hfz, hr, hall⟩
    · exact absurd (hall y hy) hfy
    · have h3 := hall y hy hfy
      have h4 : r ≠ -1 := by omega
      have h5 := h2.resolve_left h4
      exact ⟨fun q => by have := h5.1 q; have := h3.1 q; omega, fun q => by have := h5.2 q; have := h3.2 q; omega⟩
  · rw [List.mem_singleton.mp hy]
    exact ⟨fun _ => by omega, fun _ => by omega⟩
theorem en_keep {L : List Nat} {tgt : Nat → Nat} {f g : Nat → Int} {sp : Bool} {r b : Int} {x : Nat} (h : en_P L tgt f g sp r) (hb : b = if f (tgt x) = -1 then -1 else max 0 (f (tgt x) - g x)) (h1 : b = -1 ∨ (r ≠ -1 ∧ (sp = true → r ≤ b) ∧ (sp = false → b ≤ r))) : en_P (L ++ [x]) tgt f g sp r := by
  by_cases hx : f (tgt x) = -1
  · rcases h with ⟨hr, hall⟩ | ⟨z, hz, hfz, hr, hall⟩
    · refine Or.inl ⟨hr, fun y hy => ?_⟩
      rcases List.mem_append.mp hy with hy | hy
      · exact hall y hy
      · rw [List.mem_singleton.mp hy]; exact hx
    · refine Or.inr ⟨z, List.mem_append_left _ hz, hfz, hr, fun y hy hfy => ?_⟩
      rcases List.mem_append.mp hy with hy | hy
      · exact hall y hy hfy
      · rw [List.mem_singleton.mp hy] at hfy; exact absurd hx hfy
  · rw [if_neg hx] at hb
    have h2 := h1.resolve_left (by omega)
    rcases h with ⟨hr, hall⟩ | ⟨z, hz, hfz, hr, hall⟩
    · exact absurd hr h2.1
    · refine Or.inr ⟨z, List.mem_append_left _ hz, hfz, hr, fun y hy hfy => ?_⟩
      rcases List.mem_append.mp hy with hy | hy
      · exact hall y hy hfy
      · rw [List.mem_singleton.mp hy, ← hb]; exact h2.2
theorem en_congr {L : List Nat} {tgt : Nat → Nat} {f g f' g' : Nat → Int} {sp : Bool} {r : Int} (h : en_P L tgt f g sp r) (hf : ∀ x ∈ L, f' (tgt x) = f (tgt x)) (hg : ∀ x ∈ L, g' x = g x) : en_P L tgt f' g' sp r := by
  rcases h with ⟨hr, hall⟩ | ⟨z, hz, hfz, hr, hall⟩
  · exact Or.inl ⟨hr, fun x hx => by rw [hf x hx]; exact hall x hx⟩
  · exact Or.inr ⟨z, hz, by rw [hf z hz]; exact hfz, by rw [hf z hz, hg z hz]; exact hr, fun y hy => by rw [hf y hy, hg y hy]; exact hall y hy⟩
section GS
variable {n : Nat} {adj : Nat → List Nat} {tgt : Nat → Nat} {ow : Nat → Bool} {w : Nat → Int} {M : Int}
/-- the sweeps' numbers: -1 without credit, else between 0 and whatever is enough -/
def sw_I (n : Nat) (adj : Nat → List Nat) (tgt : Nat → Nat) (ow : Nat → Bool) (w : Nat → Int) (f : Nat → Int) : Prop :=
  (∀ u, u < n → ¬ gm_win adj tgt ow w 8 [] u 0 → f u = -1) ∧ ∀ u, u < n → gm_win adj tgt ow w 8 [] u 0 → 0 ≤ f u ∧ ∀ f', gm_pre n adj tgt ow w f' → f u ≤ f' u
/-- f is enough at v -/
def sw_L (adj : Nat → List Nat) (tgt : Nat → Nat) (ow : Nat → Bool) (w : Nat → Int) (f : Nat → Int) (v : Nat) : Prop :=
  (ow v = true → ∃ x ∈ adj v, gm_win adj tgt ow w 8 [] (tgt x) 0 ∧ f (tgt x) ≤ f v + w x) ∧ (ow v = false → ∀ x ∈ adj v, gm_win adj tgt ow w 8 [] (tgt x) 0 → f (tgt x) ≤ f v + w x)
theorem sw_end {f : Nat → Int} (h : sw_I n adj tgt ow w f) (hl : ∀ v, v < n → gm_win adj tgt ow w 8 [] v 0 → sw_L adj tgt ow w f v) : gm_isCr n adj tgt ow w f :=
  ⟨h.1, fun v hv hw => ⟨(h.2 v hv hw).1, (hl v hv hw).1, (hl v hv hw).2⟩, fun f' hf' v hv hw => (h.2 v hv hw).2 f' hf'⟩
theorem sw_ne {f : Nat → Int} (h : sw_I n adj tgt ow w f) {u : Nat} (hu : u < n) : gm_win adj tgt ow w 8 [] u 0 ↔ f u ≠ -1 := by
  constructor
  · intro hw
    have := (h.2 u hu hw).1
    omega
  · intro hf
    by_cases hw : gm_win adj tgt ow w 8 [] u 0
    · exact hw
    · exact absurd (h.1 u hu hw) hf
theorem sw_raise (hT : ∀ v, v < n → ∀ e ∈ adj v, tgt e < n) {f : Nat → Int} (h : sw_I n adj tgt ow w f) {v : Nat} (hv : v < n) (hw : gm_win adj tgt ow w 8 [] v 0) {r : Int} (he : en_P (adj v) tgt f w (ow v) r) (hr : f v < r) : sw_I n adj tgt ow w (fun u => if u = v then r else f u) := by
  refine ⟨fun u hu hnw => ?_, fun u hu hwu => ?_⟩
  · have huv : u ≠ v := fun q => hnw (q ▸ hw)
    simp only [if_neg huv]
    exact h.1 u hu hnw
  · by_cases huv : u = v
    · subst huv
      simp only [if_true]
      have h0 := (h.2 u hu hwu).1
      refine ⟨by omega, fun f' hf' => ?_⟩
      rcases he with ⟨hr1, -⟩ | ⟨z, hz, hfz, hrz, hall⟩
      · omega
      · have hf0 := (hf' u hu hwu).1
        cases ho : ow u with
        | true =>
          obtain ⟨x, hx, hwx, hle⟩ := (hf' u hu hwu).2.1 ho
          have h1 := (h.2 _ (hT u hu x hx) hwx).2 f' hf'
          have h2 := (hall x hx ((sw_ne h (hT u hu x hx)).mp hwx)).1 ho
          omega
        | false =>
          have hwz := (sw_ne h (hT u hu z hz)).mpr hfz
          have h1 := (h.2 _ (hT u hu z hz) hwz).2 f' hf'
          have h2 := (hf' u hu hwu).2.2 ho z hz hwz
          omega
    · simp only [if_neg huv]
      exact h.2 u hu hwu
theorem sw_skip (hn : n ≤ 7) (h0 : 0 ≤ M) (hT : ∀ v, v < n → ∀ e ∈ adj v, tgt e < n) (hM : ∀ v, v < n → ∀ e ∈ adj v, -M ≤ w e) {f : Nat → Int} (h : sw_I n adj tgt ow w f) {v : Nat} (hv : v < n) (hw : gm_win adj tgt ow w 8 [] v 0) {r : Int} (he : en_P (adj v) tgt f w (ow v) r) (hr : r ≤ f v) : sw_L adj tgt ow w f v := by
  refine ⟨fun ho => ?_, fun ho x hx hwx => ?_⟩
  · obtain ⟨fm, hm1, -, -⟩ := gm_pre_ex (ow := ow) hn h0 hT hM
    obtain ⟨y, hy, hwy, -⟩ := (hm1 v hv hw).2.1 ho
    rcases he with ⟨-, hall⟩ | ⟨z, hz, hfz, hrz, -⟩
    · exact absurd (hall y hy) ((sw_ne h (hT v hv y hy)).mp hwy)
    · exact ⟨z, hz, (sw_ne h (hT v hv z hz)).mpr hfz, by omega⟩
  · have hfx := (sw_ne h (hT v hv x hx)).mp hwx
    rcases he with ⟨-, hall⟩ | ⟨z, hz, hfz, hrz, hall⟩
    · exact absurd (hall x hx) hfx
    · have := (hall x hx hfx).2 ho
      omega
theorem sw_bd (hn : n ≤ 7) (h0 : 0 ≤ M) (hT : ∀ v, v < n → ∀ e ∈ adj v, tgt e < n) (hM : ∀ v, v < n → ∀ e ∈ adj v, -M ≤ w e) {f : Nat → Int} (h : sw_I n adj tgt ow w f) {u : Nat} (hu : u < n) : -1 ≤ f u ∧ f u ≤ 6 * M := by
  obtain ⟨fm, hm1, hm2, -⟩ := gm_pre_ex (ow := ow) hn h0 hT hM
  by_cases hw : gm_win adj tgt ow w 8 [] u 0
  · have h1 := (h.2 u hu hw).1
    have h2 := (h.2 u hu hw).2 fm hm1
    have h3 := hm2 u hu hw
    have h4 : ((n : Int) - 1) * M ≤ 6 * M := Int.mul_le_mul_of_nonneg_right (by omega) h0
    omega
  · rw [h.1 u hu hw]
    omega
end GS
def gm_sum (f : Nat → Int) : Nat → Int
  | 0 => 0
  | n + 1 => gm_sum f n + max 0 (f n)
theorem gm_sum_mono {f g : Nat → Int} : ∀ {n : Nat}, (∀ u, u < n → f u ≤ g u) → gm_sum f n ≤ gm_sum g n
  | 0, _ => Int.le_refl _
  | n + 1, h => by
    have h1 := gm_sum_mono (n := n) (fun u hu => h u (by omega))
    have h2 := h n (by omega)
    simp only [gm_sum]
    omega
theorem gm_sum_lt {f g : Nat → Int} : ∀ {n : Nat} {v : Nat}, (∀ u, u < n → f u ≤ g u) → v < n → 0 ≤ f v → f v < g v → gm_sum f n + 1 ≤ gm_sum g n
  | 0, v, _, hv, _, _ => absurd hv (Nat.not_lt_zero v)
  | n + 1, v, h, hv, h0, hlt => by
    simp only [gm_sum]
    by_cases e : v = n
    · subst e
      have h1 := gm_sum_mono (n := v) (fun u hu => h u (by omega))
      omega
    · have h1 := gm_sum_lt (n := n) (fun u hu => h u (by omega)) (show v < n by omega) h0 hlt
      have h2 := h n (by omega)
      omega
theorem gm_sum_bd {f : Nat → Int} {B : Int} (hB : 0 ≤ B) : ∀ {n : Nat}, (∀ u, u < n → f u ≤ B) → 0 ≤ gm_sum f n ∧ gm_sum f n ≤ (n : Int) * B
  | 0, _ => by simp [gm_sum]
  | n + 1, h => by
    have h1 := gm_sum_bd hB (n := n) (fun u hu => h u (by omega))
    have h2 := h n (by omega)
    have e : ((n + 1 : Nat) : Int) * B = (n : Int) * B + B := by simp only [Int.natCast_add, Int.natCast_one, Int.add_mul, Int.one_mul]
    simp only [gm_sum]
    rw [e]
    omega
/-! the game in which player pl spares and p / q counts -/
def cr_ow (G : gr_T) (pl : Nat) : Nat → Bool := if pl = 0 then gr_ow G else fun v => !gr_ow G v
def cr_w (G : gr_T) (pl : Nat) (p q : Int) : Nat → Int := if pl = 0 then fun x => q * gr_w G x - p else fun x => (-q) * gr_w G x - (-p)
def cr_win (G : gr_T) (pl : Nat) (p q : Int) (v : Nat) : Prop := gm_win (gr_adj G) (gr_tgt G) (cr_ow G pl) (cr_w G pl p q) 8 [] v 0
def cr_is (G : gr_T) (pl : Nat) (p q : Int) (f : Nat → Int) : Prop := gm_isCr (gr_n G) (gr_adj G) (gr_tgt G) (cr_ow G pl) (cr_w G pl p q) f
theorem cr_win_iff {G : gr_T} (hg : gf_ok G) {pl : Nat} {p q : Int} (hq : 0 < q) (hp1 : -1000000 * q < p * 420) (hp2 : p * 420 < 1000000 * q) {v : Nat} (hv : v < gr_n G) : cr_win G pl p q v ↔ ((pl = 0 → p * 420 ≤ vl_F G v * q) ∧ (pl ≠ 0 → vl_F G v * q ≤ p * 420)) := by
  unfold cr_win cr_ow cr_w
  by_cases h : pl = 0
  · rw [if_pos h, if_pos h]
    have h1 := gm_pay_ge (ow := gr_ow G) (w := gr_w G) hg.1 (gr_tgts hg) hq hp1 hp2 8 [] v 0 (by simp) gm_ok_nil hv
    simp only [gm_lift, List.length_nil, Int.mul_zero, Int.natCast_zero, Int.sub_zero, Int.sub_self] at h1
    simp only [h, forall_const, ne_eq, not_true, false_implies, and_true]
    exact h1.symm
  · rw [if_neg h, if_neg h]
    have h1 := gm_pay_le (ow := gr_ow G) (w := gr_w G) hg.1 (gr_tgts hg) hq hp1 hp2 8 [] v 0 (by simp) gm_ok_nil hv
    simp only [gm_lift, List.length_nil, Int.mul_zero, Int.natCast_zero, Int.sub_zero, Int.sub_self] at h1
    simp only [h, false_implies, ne_eq, not_false_eq_true, forall_const, true_and]
    exact h1.symm
theorem cr_w_bd {G : gr_T} (hg : gf_ok G) {pl : Nat} {p q : Int} (hq1 : 1 ≤ q) (hq7 : q ≤ 7) (hp1 : -63 ≤ p) (hp2 : p ≤ 63) : ∀ x, x < gr_E G → -126 ≤ cr_w G pl p q x ∧ cr_w G pl p q x ≤ 126 := by
  intro x hx
  have h := (hg.ed x hx).2.2
  rw [← gr_w_eq hx] at h
  unfold cr_w
  have hm : -63 ≤ q * gr_w G x ∧ q * gr_w G x ≤ 63 := by
    generalize gr_w G x = y at h
    rcases (show q = 1 ∨ q = 2 ∨ q = 3 ∨ q = 4 ∨ q = 5 ∨ q = 6 ∨ q = 7 by omega) with rfl | rfl | rfl | rfl | rfl | rfl | rfl <;> omega
  by_cases hpl : pl = 0
  · rw [if_pos hpl]
    omega
  · rw [if_neg hpl]
    simp only [Int.neg_mul]
    omega
theorem cr_M {G : gr_T} (hg : gf_ok G) {pl : Nat} {p q : Int} (hq1 : 1 ≤ q) (hq7 : q ≤ 7) (hp1 : -63 ≤ p) (hp2 : p ≤ 63) : ∀ v, v < gr_n G → ∀ x ∈ gr_adj G v, -126 ≤ cr_w G pl p q x := fun v hv x hx => (cr_w_bd hg hq1 hq7 hp1 hp2 x (gr_adj_mem hg hv hx).1).1
end
section
/-! ===== CreditGame$Credits: what only reads ===== -/
theorem iw_X0_needOf_X0 : ∀ w ∈ wsX00, w ∈ wsX0_needOf := by decide +kernel
set_option maxHeartbeats 4000000 in
set_option maxRecDepth 100000 in
/--  -/
theorem ct_needOf (l : Launch) (en : en_T) (ad : Nat → Nat) (c : Nat → Nat → Int32) (x : Nat) (hx2 : x < 7) : Met l yX0_needOf wsX0_needOf (rm_ 1 0 0) (ct_Pc en [.ref (ad 3), .int (nI x)] (fun H => va_P en.1 vwCl (xw en ad c) H)) (ro_Qi (fun r => r = c 14 x)) 0 0 (fun _ => False) := by
  refine Met.ofW (cc := cX0_needOf) (maxL := 2) (ret := (some .int)) (by decide) rfl ?_
  intro p e s m args below meth co s₁ B hml hv
  obtain ⟨rfl, hE, hP⟩ := hv
  have hx := B.exec
  have hb := B.bytes
  have hr := B.returns
  have hts := atoms_spec (ws := wsX0_needOf) B.pre
  have hown : s.vm.findClass RX0 = some m.cls := findClass_of_methodNamed B.named
  have hlocks := B.notSynchronized
  have hl := lv_entry ([.ref (ad 3), .int (nI x)]) (n := 2) (Nat.le_of_ble_eq_true rfl)
  rw [lg_entry_eq]
  generalize (lg_sl ([.ref (ad 3), .int (nI x)]) ++ List.replicate (2 - (lg_sl ([.ref (ad 3), .int (nI x)])).length) Slot.unset).toArray = ls at hl ⊢
  have hl : lv_has ls 2 [(0, .ref (ad 3)), (1, .int (nI x))] := hl
  refine lv_iload_n hx hb dX0_needOf_0 rfl (lv_at hl 1 rfl) ?_
  refine lv_if_lt (tgt := 19) hx hb dX0_needOf_1 (by decide) (fun b1 => absurd b1 (nI_pos (by omega))) (fun b1 => ?_)
  refine lv_iload_n hx hb dX0_needOf_4 rfl (lv_at hl 1 rfl) ?_
  refine lv_bipush (v := (nI 7)) hx hb dX0_needOf_5 (by decide) ?_
  refine lv_icmp_ge (tgt := 19) hx hb dX0_needOf_7 (by decide) (fun b7 => absurd b7 (nI_ge (show x < 7 by omega) (by omega))) (fun b7 => ?_)
  refine lv_aload_n hx hb dX0_needOf_10 rfl (lv_at hl 0 rfl) ?_
  refine va_get (D := en.1) (ci := 0) (v := .ref (ad 14)) (C := RX0) (T := TX0) (N := 4) hx hb hts iw_X0_needOf_X0 hown hE.1 hP 3 rfl rfl 2 (by decide) (hts (.fieldLink RX0 9 "CreditGame$Credits" "need" "[I") (by decide +kernel)) (fun _ h9 => h9) rfl dX0_needOf_11 ?_
  refine lv_iload_n hx hb dX0_needOf_14 rfl (lv_at hl 1 rfl) ?_
  refine xr_ild hx hb hE hP 14 (by decide) x rfl (show _ < 7 by omega) dX0_needOf_15 ?_
  refine lv_goto (tgt := 20) hx hb dX0_needOf_16 (by decide) ?_
  exact W.iret (v := (c 14 x)) hx hb hr (fun t ht hW => ⟨_, rfl, rfl, ht⟩) (fun q h => by cases h) dX0_needOf_20
theorem iw_X0_gainOf_X0 : ∀ w ∈ wsX00, w ∈ wsX0_gainOf := by decide +kernel
set_option maxHeartbeats 4000000 in
set_option maxRecDepth 100000 in
/--  -/
theorem ct_gainOf (l : Launch) (en : en_T) (ad : Nat → Nat) (c : Nat → Nat → Int32) (x : Nat) (hx2 : x < 24) : Met l yX0_gainOf wsX0_gainOf (rm_ 1 0 0) (ct_Pc en [.ref (ad 3), .int (nI x)] (fun H => va_P en.1 vwCl (xw en ad c) H)) (ro_Qi (fun r => r = c 15 x)) 0 0 (fun _ => False) := by
  refine Met.ofW (cc := cX0_gainOf) (maxL := 2) (ret := (some .int)) (by decide) rfl ?_
  intro p e s m args below meth co s₁ B hml hv
  obtain ⟨rfl, hE, hP⟩ := hv
  have hx := B.exec
  have hb := B.bytes
  have hr := B.returns
  have hts := atoms_spec (ws := wsX0_gainOf) B.pre
  have hown : s.vm.findClass RX0 = some m.cls := findClass_of_methodNamed B.named
  have hlocks := B.notSynchronized
  have hl := lv_entry ([.ref (ad 3), .int (nI x)]) (n := 2) (Nat.le_of_ble_eq_true rfl)
  rw [lg_entry_eq]
  generalize (lg_sl ([.ref (ad 3), .int (nI x)]) ++ List.replicate (2 - (lg_sl ([.ref (ad 3), .int (nI x)])).length) Slot.unset).toArray = ls at hl ⊢
  have hl : lv_has ls 2 [(0, .ref (ad 3)), (1, .int (nI x))] := hl
  refine lv_iload_n hx hb dX0_gainOf_0 rfl (lv_at hl 1 rfl) ?_
  refine lv_if_lt (tgt := 19) hx hb dX0_gainOf_1 (by decide) (fun b1 => absurd b1 (nI_pos (by omega))) (fun b1 => ?_)
  refine lv_iload_n hx hb dX0_gainOf_4 rfl (lv_at hl 1 rfl) ?_
  refine lv_bipush (v := (nI 24)) hx hb dX0_gainOf_5 (by decide) ?_
  refine lv_icmp_ge (tgt := 19) hx hb dX0_gainOf_7 (by decide) (fun b7 => absurd b7 (nI_ge (show x < 24 by omega) (by omega))) (fun b7 => ?_)
  refine lv_aload_n hx hb dX0_gainOf_10 rfl (lv_at hl 0 rfl) ?_
  refine va_get (D := en.1) (ci := 0) (v := .ref (ad 15)) (C := RX0) (T := TX0) (N := 4) hx hb hts iw_X0_gainOf_X0 hown hE.1 hP 3 rfl rfl 3 (by decide) (hts (.fieldLink RX0 15 "CreditGame$Credits" "gain" "[I") (by decide +kernel)) (fun _ h9 => h9) rfl dX0_gainOf_11 ?_
  refine lv_iload_n hx hb dX0_gainOf_14 rfl (lv_at hl 1 rfl) ?_
  refine xr_ild hx hb hE hP 15 (by decide) x rfl (show _ < 24 by omega) dX0_gainOf_15 ?_
  refine lv_goto (tgt := 20) hx hb dX0_gainOf_16 (by decide) ?_
  exact W.iret (v := (c 15 x)) hx hb hr (fun t ht hW => ⟨_, rfl, rfl, ht⟩) (fun q h => by cases h) dX0_gainOf_20
theorem iw_X0_needBefore_X0 : ∀ w ∈ wsX00, w ∈ wsX0_needBefore := by decide +kernel
set_option maxHeartbeats 4000000 in
set_option maxRecDepth 100000 in
/--  -/
theorem ct_needBefore (l : Launch) (en : en_T) (ad : Nat → Nat) (c : Nat → Nat → Int32) {G : gr_T} (hg : gi G c) (x : Nat) (hxE : x < gr_E G) (hf1 : ∀ u, u < 7 → -1 ≤ (c 14 u).toInt ∧ (c 14 u).toInt ≤ 100000) (hg1 : -100000 ≤ (c 15 x).toInt ∧ (c 15 x).toInt ≤ 100000) : Met l yX0_needBefore wsX0_needBefore (rm_ 3 0 0) (ct_Pc en [.ref (ad 3), .int (nI x)] (fun H => va_P en.1 vwCl (xw en ad c) H)) (ro_Qi (fun r => r.toInt = if (c 14 (gr_tgt G x)).toInt = -1 then -1 else max 0 ((c 14 (gr_tgt G x)).toInt - (c 15 x).toInt))) 0 0 (fun _ => False) := by
  refine Met.ofW (cc := cX0_needBefore) (maxL := 3) (ret := (some .int)) (by decide) rfl ?_
  intro p e s m args below meth co s₁ B hml hv
  obtain ⟨rfl, hE, hP⟩ := hv
  have hx := B.exec
  have hb := B.bytes
  have hr := B.returns
  have hts := atoms_spec (ws := wsX0_needBefore) B.pre
  have hown : s.vm.findClass RX0 = some m.cls := findClass_of_methodNamed B.named
  have hlocks := B.notSynchronized
  have hl := lv_entry ([.ref (ad 3), .int (nI x)]) (n := 3) (Nat.le_of_ble_eq_true rfl)
  rw [lg_entry_eq]
  generalize (lg_sl ([.ref (ad 3), .int (nI x)]) ++ List.replicate (3 - (lg_sl ([.ref (ad 3), .int (nI x)])).length) Slot.unset).toArray = ls at hl ⊢
  have hl : lv_has ls 3 [(0, .ref (ad 3)), (1, .int (nI x))] := hl
  have htl := (gr_tgt_lt hg.ok hxE).1
  have hn7 := hg.n7
  have hft := hf1 (gr_tgt G x) (by omega)
  refine lv_aload_n hx hb dX0_needBefore_0 rfl (lv_at hl 0 rfl) ?_
  refine lv_aload_n hx hb dX0_needBefore_1 rfl (lv_at hl 0 rfl) ?_
  refine va_get (D := en.1) (ci := 0) (v := .ref (ad 1)) (C := RX0) (T := TX0) (N := 4) hx hb hts iw_X0_needBefore_X0 hown hE.1 hP 3 rfl rfl 0 (by decide) (hts (.fieldLink RX0 18 "CreditGame$Credits" "graph" "LCreditGame$Graph;") (by decide +kernel)) (fun _ h9 => h9) rfl dX0_needBefore_2 ?_
  refine lv_iload_n hx hb dX0_needBefore_5 rfl (lv_at hl 1 rfl) ?_
  refine ro_calli (va_runVN (As := [.int (nI x)]) (rest := [.ref (ad 3)]) ⟨hx, hb, hml, hown, hts⟩ (ct_targetOf l en ad c hg x (by have := hg.e24; omega)) ⟨va_cnB 1 hts gX0_needBefore_X1_targetOf_n59 rfl rfl rfl (hE.2 _ (List.mem_of_getElem? (i := 35) rfl)) (hts (.initialized RX1) (by decide +kernel)) (by decide +kernel) ⟨Nat.le_of_ble_eq_true rfl, Nat.le_of_ble_eq_true rfl⟩, hts (.instanceMethod yX1_targetOf) (by decide +kernel), hts (.selects RX1 yX1_targetOf yX1_targetOf) (by decide +kernel)⟩ (ct_preV hE (va_recv hE.1 hP (ci := 1) (q0 := 1) rfl rfl) hP) rfl rfl hl.1 rfl (lv_room (Nat.le_of_ble_eq_true rfl)) dX0_needBefore_6 ⟨Nat.le_of_ble_eq_true rfl, Nat.le_of_ble_eq_true rfl⟩) (fun r6 w6 => ?_)
  obtain rfl : r6 = (nI (gr_tgt G x)) := (w6.trans (gr_tgt_lt hg.ok hxE).2)
  refine ro_calli (va_runV (As := [.int (nI (gr_tgt G x))]) (rest := []) ⟨hx, hb, hml, hown, hts⟩ (ct_needOf l en ad c (gr_tgt G x) (by omega)) (cwV 1 hts gX0_needBefore_X0_needOf rfl rfl rfl (by decide +kernel) ⟨Nat.le_of_ble_eq_true rfl, Nat.le_of_ble_eq_true rfl⟩) (ct_preV hE (va_recv hE.1 hP (ci := 0) (q0 := 3) rfl rfl) hP) rfl rfl hl.1 rfl (lv_room (Nat.le_of_ble_eq_true rfl)) dX0_needBefore_9 ⟨Nat.le_of_ble_eq_true rfl, Nat.le_of_ble_eq_true rfl⟩) (fun r9 w9 => ?_)
  obtain rfl : r9 = (c 14 (gr_tgt G x)) := w9
  refine lv_istore_n (lv' := [(2, .int (c 14 (gr_tgt G x))), (0, .ref (ad 3)), (1, .int (nI x))]) hx hb dX0_needBefore_12 rfl hl (by decide) rfl (fun ls hl => ?_)
  refine lv_iload_n hx hb dX0_needBefore_13 rfl (lv_at hl 0 rfl) ?_
  refine lv_iconst (v := (-1)) hx hb dX0_needBefore_14 (by decide) ?_
  refine lv_icmp_ne (tgt := 22) hx hb dX0_needBefore_15 (by decide) (fun b15 => ?_) (fun b15 => ?_)
  · skip
    have q15 : ¬ (c 14 (gr_tgt G x)).toInt = -1 := fun q => b15 (i_eq (by rw [q]; decide))
    refine lv_iconst (v := 0) hx hb dX0_needBefore_22 (by decide) ?_
    refine lv_iload_n hx hb dX0_needBefore_23 rfl (lv_at hl 0 rfl) ?_
    refine lv_aload_n hx hb dX0_needBefore_24 rfl (lv_at hl 1 rfl) ?_
    refine lv_iload_n hx hb dX0_needBefore_25 rfl (lv_at hl 2 rfl) ?_
    refine ro_calli (va_runV (As := [.int (nI x)]) (rest := [.int (c 14 (gr_tgt G x)), .int 0]) ⟨hx, hb, hml, hown, hts⟩ (ct_gainOf l en ad c x (by have := hg.e24; omega)) (cwV 1 hts gX0_needBefore_X0_gainOf rfl rfl rfl (by decide +kernel) ⟨Nat.le_of_ble_eq_true rfl, Nat.le_of_ble_eq_true rfl⟩) (ct_preV hE (va_recv hE.1 hP (ci := 0) (q0 := 3) rfl rfl) hP) rfl rfl hl.1 rfl (lv_room (Nat.le_of_ble_eq_true rfl)) dX0_needBefore_26 ⟨Nat.le_of_ble_eq_true rfl, Nat.le_of_ble_eq_true rfl⟩) (fun r26 w26 => ?_)
    obtain rfl : r26 = (c 15 x) := w26
    refine lv_isub hx hb dX0_needBefore_29 ?_
    refine lv_topi (fun y1 hy1 => ?_)
    have hy1i : y1.toInt = (c 14 (gr_tgt G x)).toInt - (c 15 x).toInt := by rw [hy1, i_sub (by omega) (by omega)]
    refine va_mmax hx hb (hml.trans hl.1.symm) (own := RX0) hown (hts (.methodLink RX0 68 Lib.Math.max.name) (by decide +kernel)) (hts (.static Lib.Math.max.name) (by decide +kernel)) (hts (.initialized "java/lang/Math") (by decide +kernel)) (hts (.code Lib.Math.max.name Lib.Math.max.code 2 (some .int)) (by decide +kernel)) (Nat.le_of_ble_eq_true rfl) (Nat.le_of_ble_eq_true rfl) (Nat.le_of_ble_eq_true rfl) (Nat.le_of_ble_eq_true rfl) dX0_needBefore_30 ?_
    exact W.iret (v := (if 0 < y1 then y1 else 0)) hx hb hr (fun t ht hW => ⟨_, rfl, (by first | (rw [if_pos q15]; decide) | (rw [if_neg q15]; show (if 0 < y1 then y1 else (0 : Int32)).toInt = _; rw [i_max, hy1i, i_0])), ht⟩) (fun q h => by cases h) dX0_needBefore_33
  · skip
    have q15 : (c 14 (gr_tgt G x)).toInt = -1 := by rw [b15]; decide
    refine lv_iconst (v := (-1)) hx hb dX0_needBefore_18 (by decide) ?_
    refine lv_goto (tgt := 33) hx hb dX0_needBefore_19 (by decide) ?_
    exact W.iret (v := (-1)) hx hb hr (fun t ht hW => ⟨_, rfl, (by first | (rw [if_pos q15]; decide) | (rw [if_neg q15]; show (if 0 < y1 then y1 else (0 : Int32)).toInt = _; rw [i_max, hy1i, i_0])), ht⟩) (fun q h => by cases h) dX0_needBefore_33
theorem iw_X0_allows_X0 : ∀ w ∈ wsX00, w ∈ wsX0_allows := by decide +kernel
set_option maxHeartbeats 4000000 in
set_option maxRecDepth 100000 in
/--  -/
theorem ct_allows (l : Launch) (en : en_T) (ad : Nat → Nat) (c : Nat → Nat → Int32) {G : gr_T} (hg : gi G c) (x : Nat) (hxE : x < gr_E G) (hf1 : ∀ u, u < 7 → -1 ≤ (c 14 u).toInt ∧ (c 14 u).toInt ≤ 100000) (hg1 : -100000 ≤ (c 15 x).toInt ∧ (c 15 x).toInt ≤ 100000) (j : Nat) (hj : j < 7) : Met l yX0_allows wsX0_allows (rm_ 3 0 0) (ct_Pc en [.ref (ad 3), .int (nI j), .int (nI x)] (fun H => va_P en.1 vwCl (xw en ad c) H)) (ro_Qi (fun r => (r = 1 ∧ (c 14 (gr_tgt G x)).toInt ≠ -1 ∧ (c 14 (gr_tgt G x)).toInt ≤ (c 14 j).toInt + (c 15 x).toInt) ∨ (r = 0 ∧ ¬ ((c 14 (gr_tgt G x)).toInt ≠ -1 ∧ (c 14 (gr_tgt G x)).toInt ≤ (c 14 j).toInt + (c 15 x).toInt)))) 0 0 (fun _ => False) := by
  refine Met.ofW (cc := cX0_allows) (maxL := 4) (ret := (some .boolean)) (by decide) rfl ?_
  intro p e s m args below meth co s₁ B hml hv
  obtain ⟨rfl, hE, hP⟩ := hv
  have hx := B.exec
  have hb := B.bytes
  have hr := B.returns
  have hts := atoms_spec (ws := wsX0_allows) B.pre
  have hown : s.vm.findClass RX0 = some m.cls := findClass_of_methodNamed B.named
  have hlocks := B.notSynchronized
  have hl := lv_entry ([.ref (ad 3), .int (nI j), .int (nI x)]) (n := 4) (Nat.le_of_ble_eq_true rfl)
  rw [lg_entry_eq]
  generalize (lg_sl ([.ref (ad 3), .int (nI j), .int (nI x)]) ++ List.replicate (4 - (lg_sl ([.ref (ad 3), .int (nI j), .int (nI x)])).length) Slot.unset).toArray = ls at hl ⊢
  have hl : lv_has ls 4 [(0, .ref (ad 3)), (1, .int (nI j)), (2, .int (nI x))] := hl
  have htl := (gr_tgt_lt hg.ok hxE).1
  have hn7 := hg.n7
  have hft := hf1 (gr_tgt G x) (by omega)
  refine lv_aload_n hx hb dX0_allows_0 rfl (lv_at hl 0 rfl) ?_
  refine lv_aload_n hx hb dX0_allows_1 rfl (lv_at hl 0 rfl) ?_
  refine va_get (D := en.1) (ci := 0) (v := .ref (ad 1)) (C := RX0) (T := TX0) (N := 4) hx hb hts iw_X0_allows_X0 hown hE.1 hP 3 rfl rfl 0 (by decide) (hts (.fieldLink RX0 18 "CreditGame$Credits" "graph" "LCreditGame$Graph;") (by decide +kernel)) (fun _ h9 => h9) rfl dX0_allows_2 ?_
  refine lv_iload_n hx hb dX0_allows_5 rfl (lv_at hl 2 rfl) ?_
  refine ro_calli (va_runVN (As := [.int (nI x)]) (rest := [.ref (ad 3)]) ⟨hx, hb, hml, hown, hts⟩ (ct_targetOf l en ad c hg x (by have := hg.e24; omega)) ⟨va_cnB 1 hts gX0_allows_X1_targetOf_n59 rfl rfl rfl (hE.2 _ (List.mem_of_getElem? (i := 35) rfl)) (hts (.initialized RX1) (by decide +kernel)) (by decide +kernel) ⟨Nat.le_of_ble_eq_true rfl, Nat.le_of_ble_eq_true rfl⟩, hts (.instanceMethod yX1_targetOf) (by decide +kernel), hts (.selects RX1 yX1_targetOf yX1_targetOf) (by decide +kernel)⟩ (ct_preV hE (va_recv hE.1 hP (ci := 1) (q0 := 1) rfl rfl) hP) rfl rfl hl.1 rfl (lv_room (Nat.le_of_ble_eq_true rfl)) dX0_allows_6 ⟨Nat.le_of_ble_eq_true rfl, Nat.le_of_ble_eq_true rfl⟩) (fun r6 w6 => ?_)
  obtain rfl : r6 = (nI (gr_tgt G x)) := (w6.trans (gr_tgt_lt hg.ok hxE).2)
  refine ro_calli (va_runV (As := [.int (nI (gr_tgt G x))]) (rest := []) ⟨hx, hb, hml, hown, hts⟩ (ct_needOf l en ad c (gr_tgt G x) (by omega)) (cwV 1 hts gX0_allows_X0_needOf rfl rfl rfl (by decide +kernel) ⟨Nat.le_of_ble_eq_true rfl, Nat.le_of_ble_eq_true rfl⟩) (ct_preV hE (va_recv hE.1 hP (ci := 0) (q0 := 3) rfl rfl) hP) rfl rfl hl.1 rfl (lv_room (Nat.le_of_ble_eq_true rfl)) dX0_allows_9 ⟨Nat.le_of_ble_eq_true rfl, Nat.le_of_ble_eq_true rfl⟩) (fun r9 w9 => ?_)
  obtain rfl : r9 = (c 14 (gr_tgt G x)) := w9
  refine lv_istore_n (lv' := [(3, .int (c 14 (gr_tgt G x))), (0, .ref (ad 3)), (1, .int (nI j)), (2, .int (nI x))]) hx hb dX0_allows_12 rfl hl (by decide) rfl (fun ls hl => ?_)
  refine lv_iload_n hx hb dX0_allows_13 rfl (lv_at hl 0 rfl) ?_
  refine lv_iconst (v := (-1)) hx hb dX0_allows_14 (by decide) ?_
  refine lv_icmp_eq (tgt := 37) hx hb dX0_allows_15 (by decide) (fun b15 => ?_) (fun b15 => ?_)
  · skip
    have q15 : (c 14 (gr_tgt G x)).toInt = -1 := by rw [b15]; decide
    refine lv_iconst (v := 0) hx hb dX0_allows_37 (by decide) ?_
    exact W.zret (v := 0) (ty := .boolean) hx hb hr rfl (fun t ht hW => ⟨_, rfl, (by first | exact Or.inr ⟨rfl, fun q => q.1 q15⟩ | exact Or.inl ⟨rfl, q15, by omega⟩ | exact Or.inr ⟨rfl, fun q => by have := q.2; omega⟩), ht⟩) (fun q h => by cases h) dX0_allows_38
  · skip
    have q15 : ¬ (c 14 (gr_tgt G x)).toInt = -1 := fun q => b15 (i_eq (by rw [q]; decide))
    refine lv_aload_n hx hb dX0_allows_18 rfl (lv_at hl 1 rfl) ?_
    refine lv_iload_n hx hb dX0_allows_19 rfl (lv_at hl 2 rfl) ?_
    refine ro_calli (va_runV (As := [.int (nI j)]) (rest := []) ⟨hx, hb, hml, hown, hts⟩ (ct_needOf l en ad c j hj) (cwV 1 hts gX0_allows_X0_needOf rfl rfl rfl (by decide +kernel) ⟨Nat.le_of_ble_eq_true rfl, Nat.le_of_ble_eq_true rfl⟩) (ct_preV hE (va_recv hE.1 hP (ci := 0) (q0 := 3) rfl rfl) hP) rfl rfl hl.1 rfl (lv_room (Nat.le_of_ble_eq_true rfl)) dX0_allows_20 ⟨Nat.le_of_ble_eq_true rfl, Nat.le_of_ble_eq_true rfl⟩) (fun r20 w20 => ?_)
    obtain rfl : r20 = (c 14 j) := w20
    refine lv_aload_n hx hb dX0_allows_23 rfl (lv_at hl 1 rfl) ?_
    refine lv_iload_n hx hb dX0_allows_24 rfl (lv_at hl 3 rfl) ?_
    refine ro_calli (va_runV (As := [.int (nI x)]) (rest := [.int (c 14 j)]) ⟨hx, hb, hml, hown, hts⟩ (ct_gainOf l en ad c x (by have := hg.e24; omega)) (cwV 1 hts gX0_allows_X0_gainOf rfl rfl rfl (by decide +kernel) ⟨Nat.le_of_ble_eq_true rfl, Nat.le_of_ble_eq_true rfl⟩) (ct_preV hE (va_recv hE.1 hP (ci := 0) (q0 := 3) rfl rfl) hP) rfl rfl hl.1 rfl (lv_room (Nat.le_of_ble_eq_true rfl)) dX0_allows_25 ⟨Nat.le_of_ble_eq_true rfl, Nat.le_of_ble_eq_true rfl⟩) (fun r25 w25 => ?_)
    obtain rfl : r25 = (c 15 x) := w25
    refine lv_iadd hx hb dX0_allows_28 ?_
    refine lv_topi (fun y1 hy1 => ?_)
    have hfj := hf1 j hj
    have hy1i : y1.toInt = (c 14 j).toInt + (c 15 x).toInt := by rw [hy1, i_add (by omega) (by omega)]
    refine lv_iload_n hx hb dX0_allows_29 rfl (lv_at hl 0 rfl) ?_
    refine lv_icmp_lt (tgt := 37) hx hb dX0_allows_30 (by decide) (fun b30 => ?_) (fun b30 => ?_)
    · skip
      have q30 := i_lt.mp b30
      refine lv_iconst (v := 0) hx hb dX0_allows_37 (by decide) ?_
      exact W.zret (v := 0) (ty := .boolean) hx hb hr rfl (fun t ht hW => ⟨_, rfl, (by first | exact Or.inr ⟨rfl, fun q => q.1 q15⟩ | exact Or.inl ⟨rfl, q15, by omega⟩ | exact Or.inr ⟨rfl, fun q => by have := q.2; omega⟩), ht⟩) (fun q h => by cases h) dX0_allows_38
    · skip
      have q30 : ¬ _ := fun q => b30 (i_lt.mpr q)
      refine lv_iconst (v := 1) hx hb dX0_allows_33 (by decide) ?_
      refine lv_goto (tgt := 38) hx hb dX0_allows_34 (by decide) ?_
      exact W.zret (v := 1) (ty := .boolean) hx hb hr rfl (fun t ht hW => ⟨_, rfl, (by first | exact Or.inr ⟨rfl, fun q => q.1 q15⟩ | exact Or.inl ⟨rfl, q15, by omega⟩ | exact Or.inr ⟨rfl, fun q => by have := q.2; omega⟩), ht⟩) (fun q h => by cases h) dX0_allows_38
set_option maxHeartbeats 4000000 in
set_option maxRecDepth 100000 in
/--  -/
theorem ct_isGoodFor (l : Launch) (en : en_T) (ad : Nat → Nat) (c : Nat → Nat → Int32) (pl : Nat) (hpl : pl < 2) (x : Int32) : Met l yX0_isGoodFor wsX0_isGoodFor (rm_ 1 0 0) (ct_Pc en [.ref (ad 3), .int (nI pl), .int x] (fun H => True)) (ro_Qi (fun r => (r = 1 ∧ (pl = 0 → ¬ x < 0) ∧ (pl ≠ 0 → ¬ 0 < x)) ∨ (r = 0 ∧ ¬ ((pl = 0 → ¬ x < 0) ∧ (pl ≠ 0 → ¬ 0 < x))))) 0 0 (fun _ => False) := by
  refine Met.ofW (cc := cX0_isGoodFor) (maxL := 3) (ret := (some .boolean)) (by decide) rfl ?_
  intro p e s m args below meth co s₁ B hml hv
  obtain ⟨rfl, hE, hP⟩ := hv
  have hx := B.exec
  have hb := B.bytes
  have hr := B.returns
  have hts := atoms_spec (ws := wsX0_isGoodFor) B.pre
  have hown : s.vm.findClass RX0 = some m.cls := findClass_of_methodNamed B.named
  have hlocks := B.notSynchronized
  have hl := lv_entry ([.ref (ad 3), .int (nI pl), .int x]) (n := 3) (Nat.le_of_ble_eq_true rfl)
  rw [lg_entry_eq]
  generalize (lg_sl ([.ref (ad 3), .int (nI pl), .int x]) ++ List.replicate (3 - (lg_sl ([.ref (ad 3), .int (nI pl), .int x])).length) Slot.unset).toArray = ls at hl ⊢
  have hl : lv_has ls 3 [(0, .ref (ad 3)), (1, .int (nI pl)), (2, .int x)] := hl
  refine lv_iload_n hx hb dX0_isGoodFor_0 rfl (lv_at hl 1 rfl) ?_
  refine lv_if_ne (tgt := 16) hx hb dX0_isGoodFor_1 (by decide) (fun b1 => ?_) (fun b1 => ?_)
  · skip
    have hp : pl ≠ 0 := fun q => b1 (by rw [q]; rfl)
    refine lv_iload_n hx hb dX0_isGoodFor_16 rfl (lv_at hl 2 rfl) ?_
    refine lv_if_gt (tgt := 24) hx hb dX0_isGoodFor_17 (by decide) (fun b17 => ?_) (fun b17 => ?_)
    · skip
      refine lv_iconst (v := 0) hx hb dX0_isGoodFor_24 (by decide) ?_
      exact W.zret (v := 0) (ty := .boolean) hx hb hr rfl (fun t ht hW => ⟨_, rfl, (by first | exact Or.inl ⟨rfl, fun _ => b5, fun q => absurd hp q⟩ | exact Or.inr ⟨rfl, fun q => q.1 hp b5⟩ | exact Or.inl ⟨rfl, fun q => absurd q hp, fun _ => b17⟩ | exact Or.inr ⟨rfl, fun q => q.2 hp b17⟩), ht⟩) (fun q h => by cases h) dX0_isGoodFor_25
    · skip
      refine lv_iconst (v := 1) hx hb dX0_isGoodFor_20 (by decide) ?_
      refine lv_goto (tgt := 25) hx hb dX0_isGoodFor_21 (by decide) ?_
      exact W.zret (v := 1) (ty := .boolean) hx hb hr rfl (fun t ht hW => ⟨_, rfl, (by first | exact Or.inl ⟨rfl, fun _ => b5, fun q => absurd hp q⟩ | exact Or.inr ⟨rfl, fun q => q.1 hp b5⟩ | exact Or.inl ⟨rfl, fun q => absurd q hp, fun _ => b17⟩ | exact Or.inr ⟨rfl, fun q => q.2 hp b17⟩), ht⟩) (fun q h => by cases h) dX0_isGoodFor_25
  · skip
    have hp : pl = 0 := by
      rcases (show pl = 0 ∨ pl = 1 by omega) with q | q
      · exact q
      · rw [q] at b1; exact absurd b1 (by decide)
    refine lv_iload_n hx hb dX0_isGoodFor_4 rfl (lv_at hl 2 rfl) ?_
    refine lv_if_lt (tgt := 12) hx hb dX0_isGoodFor_5 (by decide) (fun b5 => ?_) (fun b5 => ?_)
    · skip
      refine lv_iconst (v := 0) hx hb dX0_isGoodFor_12 (by decide) ?_
      refine lv_goto (tgt := 25) hx hb dX0_isGoodFor_13 (by decide) ?_
      exact W.zret (v := 0) (ty := .boolean) hx hb hr rfl (fun t ht hW => ⟨_, rfl, (by first | exact Or.inl ⟨rfl, fun _ => b5, fun q => absurd hp q⟩ | exact Or.inr ⟨rfl, fun q => q.1 hp b5⟩ | exact Or.inl ⟨rfl, fun q => absurd q hp, fun _ => b17⟩ | exact Or.inr ⟨rfl, fun q => q.2 hp b17⟩), ht⟩) (fun q h => by cases h) dX0_isGoodFor_25
    · skip
      refine lv_iconst (v := 1) hx hb dX0_isGoodFor_8 (by decide) ?_
      refine lv_goto (tgt := 25) hx hb dX0_isGoodFor_9 (by decide) ?_
      exact W.zret (v := 1) (ty := .boolean) hx hb hr rfl (fun t ht hW => ⟨_, rfl, (by first | exact Or.inl ⟨rfl, fun _ => b5, fun q => absurd hp q⟩ | exact Or.inr ⟨rfl, fun q => q.1 hp b5⟩ | exact Or.inl ⟨rfl, fun q => absurd q hp, fun _ => b17⟩ | exact Or.inr ⟨rfl, fun q => q.2 hp b17⟩), ht⟩) (fun q h => by cases h) dX0_isGoodFor_25
theorem iw_X0_enoughAt_X0 : ∀ w ∈ wsX00, w ∈ wsX0_enoughAt := by decide +kernel
set_option maxHeartbeats 4000000 in
set_option maxRecDepth 100000 in
/--  -/
theorem ct_enoughAt_t (l : Launch) (en : en_T) (ad : Nat → Nat) (c : Nat → Nat → Int32) {G : gr_T} (hg : gi G c) (j : Nat) (hj : j < 7) (hf1 : ∀ u, u < 7 → -1 ≤ (c 14 u).toInt ∧ (c 14 u).toInt ≤ 100000) (hg1 : ∀ x, x < gr_E G → -100000 ≤ (c 15 x).toInt ∧ (c 15 x).toInt ≤ 100000) : Met l yX0_enoughAt wsX0_enoughAt (rm_ 4 0 0) (ct_Pc en [.ref (ad 3), .int (nI j), .int 1] (fun H => va_P en.1 vwCl (xw en ad c) H)) (ro_Qi (fun r => en_P (gr_adj G j) (gr_tgt G) (fun u => (c 14 u).toInt) (fun x => (c 15 x).toInt) true r.toInt)) 0 0 (fun _ => False) := by
  refine Met.ofW (cc := cX0_enoughAt) (maxL := 8) (ret := (some .int)) (by decide) rfl ?_
  intro p e s m args below meth co s₁ B hml hv
  obtain ⟨rfl, hE, hP⟩ := hv
  have hx := B.exec
  have hb := B.bytes
  have hr := B.returns
  have hts := atoms_spec (ws := wsX0_enoughAt) B.pre
  have hown : s.vm.findClass RX0 = some m.cls := findClass_of_methodNamed B.named
  have hlocks := B.notSynchronized
  have hl := lv_entry ([.ref (ad 3), .int (nI j), .int 1]) (n := 8) (Nat.le_of_ble_eq_true rfl)
  rw [lg_entry_eq]
  generalize (lg_sl ([.ref (ad 3), .int (nI j), .int 1]) ++ List.replicate (8 - (lg_sl ([.ref (ad 3), .int (nI j), .int 1])).length) Slot.unset).toArray = ls at hl ⊢
  have hl : lv_has ls 8 [(0, .ref (ad 3)), (1, .int (nI j)), (2, .int 1)] := hl
  have hadl := gr_adj_len hg.ok j
  refine lv_iconst (v := (-1)) hx hb dX0_enoughAt_0 (by decide) ?_
  refine lv_istore_n (lv' := [(3, .int (-1)), (0, .ref (ad 3)), (1, .int (nI j)), (2, .int 1)]) hx hb dX0_enoughAt_1 rfl hl (by decide) rfl (fun ls hl => ?_)
  refine lv_aload_n hx hb dX0_enoughAt_2 rfl (lv_at hl 1 rfl) ?_
  refine va_get (D := en.1) (ci := 0) (v := .ref (ad 1)) (C := RX0) (T := TX0) (N := 4) hx hb hts iw_X0_enoughAt_X0 hown hE.1 hP 3 rfl rfl 0 (by decide) (hts (.fieldLink RX0 18 "CreditGame$Credits" "graph" "LCreditGame$Graph;") (by decide +kernel)) (fun _ h9 => h9) rfl dX0_enoughAt_3 ?_
  refine lv_iload_n hx hb dX0_enoughAt_6 rfl (lv_at hl 2 rfl) ?_
  refine ro_calli (va_runVN (As := [.int (nI j)]) (rest := []) ⟨hx, hb, hml, hown, hts⟩ (ct_waysFrom l en ad c hg j hj) ⟨va_cnB 1 hts gX0_enoughAt_X1_waysFrom_n49 rfl rfl rfl (hE.2 _ (List.mem_of_getElem? (i := 33) rfl)) (hts (.initialized RX1) (by decide +kernel)) (by decide +kernel) ⟨Nat.le_of_ble_eq_true rfl, Nat.le_of_ble_eq_true rfl⟩, hts (.instanceMethod yX1_waysFrom) (by decide +kernel), hts (.selects RX1 yX1_waysFrom yX1_waysFrom) (by decide +kernel)⟩ (ct_preV hE (va_recv hE.1 hP (ci := 1) (q0 := 1) rfl rfl) hP) rfl rfl hl.1 rfl (lv_room (Nat.le_of_ble_eq_true rfl)) dX0_enoughAt_7 ⟨Nat.le_of_ble_eq_true rfl, Nat.le_of_ble_eq_true rfl⟩) (fun r7 w7 => ?_)
  obtain rfl : r7 = (nI (gr_adj G j).length) := w7
  refine lv_istore (lv' := [(4, .int (nI (gr_adj G j).length)), (3, .int (-1)), (0, .ref (ad 3)), (1, .int (nI j)), (2, .int 1)]) hx hb dX0_enoughAt_10 hl (by decide) rfl (fun ls hl => ?_)
  refine lv_iconst (v := (nI 0)) hx hb dX0_enoughAt_12 (by decide) ?_
  refine lv_istore (lv' := [(5, .int (nI 0)), (4, .int (nI (gr_adj G j).length)), (3, .int (-1)), (0, .ref (ad 3)), (1, .int (nI j)), (2, .int 1)]) hx hb dX0_enoughAt_13 hl (by decide) rfl (fun ls hl => ?_)
  have key15 : ∀ (n_ : Nat) (i : Nat) (en_ : Int32) (ls : Array Slot), i ≤ (gr_adj G j).length → (gr_adj G j).length + 1 ≤ i + n_ → en_P ((gr_adj G j).take i) (gr_tgt G) (fun u => (c 14 u).toInt) (fun x => (c 15 x).toInt) true en_.toInt → lv_has ls 8 [(0, .ref (ad 3)), (1, .int (nI j)), (2, .int 1), (3, .int en_), (4, .int (nI (gr_adj G j).length)), (5, .int (nI i))] → W p l e (headSpec wsX0_enoughAt (rm_ 4 0 0)).room s m ([.ref (ad 3), .int (nI j), .int 1] : List Value).toArray below meth co s.heap [] 0 0 (MQ below (ro_Qi (fun r => en_P (gr_adj G j) (gr_tgt G) (fun u => (c 14 u).toInt) (fun x => (c 15 x).toInt) true r.toInt)) ([.ref (ad 3), .int (nI j), .int 1] : List Value).toArray s 0 0 (fun _ => False)) (F0 m 15 ls []) := by
    intro n_
    induction n_ with
    | zero =>
      intro i en_ ls hi_ hin hen hl
      exact absurd hin (by omega)
    | succ n_ ih15 =>
      intro i en_ ls hi_ hin hen hl
      refine lv_iload hx hb dX0_enoughAt_15 (lv_at hl 5 rfl) ?_
      refine lv_iload hx hb dX0_enoughAt_17 (lv_at hl 4 rfl) ?_
      refine lv_icmp_ge (tgt := 94) hx hb dX0_enoughAt_19 (by decide) (fun b19 => ?_) (fun b19 => ?_)
      · skip
        have hin2 : i = (gr_adj G j).length := by
          rcases Nat.lt_or_ge i (gr_adj G j).length with q | q
          · exact absurd b19 (nI_ge q (by omega))
          · omega
        subst hin2
        rw [List.take_length] at hen
        refine lv_iload_n hx hb dX0_enoughAt_94 rfl (lv_at hl 3 rfl) ?_
        exact W.iret (v := en_) hx hb hr (fun t ht hW => ⟨_, rfl, hen, ht⟩) (fun q h => by cases h) dX0_enoughAt_95
      · skip
        have hlt : i < (gr_adj G j).length := by
          rcases Nat.lt_or_ge i (gr_adj G j).length with q | q
          · exact q
          · exact absurd (nI_le q (by omega)) b19
        have hjn : j < gr_n G := by
          rcases Nat.lt_or_ge j (gr_n G) with q | q
          · exact q
          · rw [gr_adj_ge (by omega)] at hlt; exact absurd hlt (Nat.not_lt_zero _)
        have hm := gr_adj_at hg.ok hjn hlt
        obtain ⟨x, hx_⟩ : ∃ z, z = (gr_adj G j).getD i 0 := ⟨_, rfl⟩
        have hts_ : (gr_adj G j).take (i + 1) = (gr_adj G j).take i ++ [x] := by
          have := gm_take (gr_adj G j) id 0 hlt
          rw [List.map_id] at this
          rw [this, hx_]; rfl
        rw [← hx_] at hm
        have hxE := (gr_adj_mem hg.ok hjn hm).1
        refine lv_aload_n hx hb dX0_enoughAt_22 rfl (lv_at hl 0 rfl) ?_
        refine lv_aload_n hx hb dX0_enoughAt_23 rfl (lv_at hl 0 rfl) ?_
        refine va_get (D := en.1) (ci := 0) (v := .ref (ad 1)) (C := RX0) (T := TX0) (N := 4) hx hb hts iw_X0_enoughAt_X0 hown hE.1 hP 3 rfl rfl 0 (by decide) (hts (.fieldLink RX0 18 "CreditGame$Credits" "graph" "LCreditGame$Graph;") (by decide +kernel)) (fun _ h9 => h9) rfl dX0_enoughAt_24 ?_
        refine lv_iload_n hx hb dX0_enoughAt_27 rfl (lv_at hl 1 rfl) ?_
        refine lv_iload hx hb dX0_enoughAt_28 (lv_at hl 5 rfl) ?_
        refine ro_calli (va_runVN (As := [.int (nI j), .int (nI i)]) (rest := [.ref (ad 3)]) ⟨hx, hb, hml, hown, hts⟩ (ct_wayFrom l en ad c hg j i hjn hlt) ⟨va_cnB 2 hts gX0_enoughAt_X1_wayFrom_n52 rfl rfl rfl (hE.2 _ (List.mem_of_getElem? (i := 34) rfl)) (hts (.initialized RX1) (by decide +kernel)) (by decide +kernel) ⟨Nat.le_of_ble_eq_true rfl, Nat.le_of_ble_eq_true rfl⟩, hts (.instanceMethod yX1_wayFrom) (by decide +kernel), hts (.selects RX1 yX1_wayFrom yX1_wayFrom) (by decide +kernel)⟩ (ct_preV hE (va_recv hE.1 hP (ci := 1) (q0 := 1) rfl rfl) hP) rfl rfl hl.1 rfl (lv_room (Nat.le_of_ble_eq_true rfl)) dX0_enoughAt_30 ⟨Nat.le_of_ble_eq_true rfl, Nat.le_of_ble_eq_true rfl⟩) (fun r30 w30 => ?_)
        obtain rfl : r30 = (nI x) := (w30.trans (by rw [hx_]))
        refine ro_calli (va_runV (As := [.int (nI x)]) (rest := []) ⟨hx, hb, hml, hown, hts⟩ (ct_needBefore l en ad c hg x hxE hf1 (hg1 x hxE)) (cwV 1 hts gX0_enoughAt_X0_needBefore rfl rfl rfl (by decide +kernel) ⟨Nat.le_of_ble_eq_true rfl, Nat.le_of_ble_eq_true rfl⟩) (ct_preV hE (va_recv hE.1 hP (ci := 0) (q0 := 3) rfl rfl) hP) rfl rfl hl.1 rfl (lv_room (Nat.le_of_ble_eq_true rfl)) dX0_enoughAt_33 ⟨Nat.le_of_ble_eq_true rfl, Nat.le_of_ble_eq_true rfl⟩) (fun r33 w33 => ?_)
        refine lv_istore (lv' := [(6, .int r33), (0, .ref (ad 3)), (1, .int (nI j)), (2, .int 1), (3, .int en_), (4, .int (nI (gr_adj G j).length)), (5, .int (nI i))]) hx hb dX0_enoughAt_36 hl (by decide) rfl (fun ls hl => ?_)
        refine lv_iload_n hx hb dX0_enoughAt_38 rfl (lv_at hl 3 rfl) ?_
        refine lv_if_eq (tgt := 56) hx hb dX0_enoughAt_39 (by decide) (fun b39 => absurd b39 (by decide)) (fun b39 => ?_)
        refine lv_iload hx hb dX0_enoughAt_42 (lv_at hl 0 rfl) ?_
        refine lv_iload_n hx hb dX0_enoughAt_44 rfl (lv_at hl 4 rfl) ?_
        refine lv_icmp_ge (tgt := 52) hx hb dX0_enoughAt_45 (by decide) (fun b45 => ?_) (fun b45 => ?_)
        · skip
          have q45 := i_le.mp b45
          refine lv_iconst (v := 0) hx hb dX0_enoughAt_52 (by decide) ?_
          refine lv_goto (tgt := 67) hx hb dX0_enoughAt_53 (by decide) ?_
          refine lv_istore (lv' := [(7, .int 0), (6, .int r33), (0, .ref (ad 3)), (1, .int (nI j)), (2, .int 1), (3, .int en_), (4, .int (nI (gr_adj G j).length)), (5, .int (nI i))]) hx hb dX0_enoughAt_67 hl (by decide) rfl (fun ls hl => ?_)
          refine lv_iload hx hb dX0_enoughAt_69 (lv_at hl 1 rfl) ?_
          refine lv_iconst (v := (-1)) hx hb dX0_enoughAt_71 (by decide) ?_
          refine lv_icmp_eq (tgt := 88) hx hb dX0_enoughAt_72 (by decide) (fun b72 => ?_) (fun b72 => ?_)
          · skip
            have q72 : r33.toInt = -1 := by rw [b72]; decide
            refine lv_iinc (v := (nI (i + 1))) (lv' := [(5, .int (nI (i + 1))), (7, .int 0), (6, .int r33), (0, .ref (ad 3)), (1, .int (nI j)), (2, .int 1), (3, .int en_), (4, .int (nI (gr_adj G j).length))]) hx hb dX0_enoughAt_88 hl (k := 7) rfl (nI_1 _) (by decide) rfl (fun ls hl => ?_)
            refine lv_goto (tgt := 15) hx hb dX0_enoughAt_91 (by decide) ?_
            exact ih15 (i + 1) en_ _ (by omega) (by omega) (by rw [hts_]; exact en_keep hen w33 (by first | exact Or.inl q72 | exact Or.inr ⟨q77, fun q => (by first | omega | (cases q)), fun q => (by first | omega | (cases q))⟩)) (lv_sub hl [3, 4, 5, 6, 7, 0] rfl)
          · skip
            have q72 : ¬ r33.toInt = -1 := fun q => b72 (i_eq (by rw [q]; decide))
            refine lv_iload_n hx hb dX0_enoughAt_75 rfl (lv_at hl 5 rfl) ?_
            refine lv_iconst (v := (-1)) hx hb dX0_enoughAt_76 (by decide) ?_
            refine lv_icmp_eq (tgt := 85) hx hb dX0_enoughAt_77 (by decide) (fun b77 => ?_) (fun b77 => ?_)
            · skip
              have q77 : en_.toInt = -1 := by rw [b77]; decide
              refine lv_iload hx hb dX0_enoughAt_85 (lv_at hl 1 rfl) ?_
              refine lv_istore_n (lv' := [(3, .int r33), (7, .int 0), (6, .int r33), (0, .ref (ad 3)), (1, .int (nI j)), (2, .int 1), (4, .int (nI (gr_adj G j).length)), (5, .int (nI i))]) hx hb dX0_enoughAt_87 rfl hl (by decide) rfl (fun ls hl => ?_)
              refine lv_iinc (v := (nI (i + 1))) (lv' := [(5, .int (nI (i + 1))), (3, .int r33), (7, .int 0), (6, .int r33), (0, .ref (ad 3)), (1, .int (nI j)), (2, .int 1), (4, .int (nI (gr_adj G j).length))]) hx hb dX0_enoughAt_88 hl (k := 7) rfl (nI_1 _) (by decide) rfl (fun ls hl => ?_)
              refine lv_goto (tgt := 15) hx hb dX0_enoughAt_91 (by decide) ?_
              exact ih15 (i + 1) r33 _ (by omega) (by omega) (by rw [hts_]; exact en_take hen w33 q72 (by first | exact Or.inl q77 | exact Or.inr ⟨fun q => (by first | omega | (cases q)), fun q => (by first | omega | (cases q))⟩)) (lv_sub hl [4, 5, 6, 1, 7, 0] rfl)
            · skip
              have q77 : ¬ en_.toInt = -1 := fun q => b77 (i_eq (by rw [q]; decide))
              refine lv_iload hx hb dX0_enoughAt_80 (lv_at hl 0 rfl) ?_
              refine lv_if_eq (tgt := 88) hx hb dX0_enoughAt_82 (by decide) (fun b82 => ?_) (fun b82 => absurd b82 (fun q => q rfl))
              refine lv_iinc (v := (nI (i + 1))) (lv' := [(5, .int (nI (i + 1))), (7, .int 0), (6, .int r33), (0, .ref (ad 3)), (1, .int (nI j)), (2, .int 1), (3, .int en_), (4, .int (nI (gr_adj G j).length))]) hx hb dX0_enoughAt_88 hl (k := 7) rfl (nI_1 _) (by decide) rfl (fun ls hl => ?_)
              refine lv_goto (tgt := 15) hx hb dX0_enoughAt_91 (by decide) ?_
              exact ih15 (i + 1) en_ _ (by omega) (by omega) (by rw [hts_]; exact en_keep hen w33 (by first | exact Or.inl q72 | exact Or.inr ⟨q77, fun q => (by first | omega | (cases q)), fun q => (by first | omega | (cases q))⟩)) (lv_sub hl [3, 4, 5, 6, 7, 0] rfl)
        · skip
          have q45 : ¬ _ := fun q => b45 (i_le.mpr q)
          refine lv_iconst (v := 1) hx hb dX0_enoughAt_48 (by decide) ?_
          refine lv_goto (tgt := 67) hx hb dX0_enoughAt_49 (by decide) ?_
          refine lv_istore (lv' := [(7, .int 1), (6, .int r33), (0, .ref (ad 3)), (1, .int (nI j)), (2, .int 1), (3, .int en_), (4, .int (nI (gr_adj G j).length)), (5, .int (nI i))]) hx hb dX0_enoughAt_67 hl (by decide) rfl (fun ls hl => ?_)
          refine lv_iload hx hb dX0_enoughAt_69 (lv_at hl 1 rfl) ?_
          refine lv_iconst (v := (-1)) hx hb dX0_enoughAt_71 (by decide) ?_
          refine lv_icmp_eq (tgt := 88) hx hb dX0_enoughAt_72 (by decide) (fun b72 => ?_) (fun b72 => ?_)
          · skip
            have q72 : r33.toInt = -1 := by rw [b72]; decide
            refine lv_iinc (v := (nI (i + 1))) (lv' := [(5, .int (nI (i + 1))), (7, .int 1), (6, .int r33), (0, .ref (ad 3)), (1, .int (nI j)), (2, .int 1), (3, .int en_), (4, .int (nI (gr_adj G j).length))]) hx hb dX0_enoughAt_88 hl (k := 7) rfl (nI_1 _) (by decide) rfl (fun ls hl => ?_)
            refine lv_goto (tgt := 15) hx hb dX0_enoughAt_91 (by decide) ?_
            exact ih15 (i + 1) en_ _ (by omega) (by omega) (by rw [hts_]; exact en_keep hen w33 (by first | exact Or.inl q72 | exact Or.inr ⟨q77, fun q => (by first | omega | (cases q)), fun q => (by first | omega | (cases q))⟩)) (lv_sub hl [3, 4, 5, 6, 7, 0] rfl)
          · skip
            have q72 : ¬ r33.toInt = -1 := fun q => b72 (i_eq (by rw [q]; decide))
            refine lv_iload_n hx hb dX0_enoughAt_75 rfl (lv_at hl 5 rfl) ?_
            refine lv_iconst (v := (-1)) hx hb dX0_enoughAt_76 (by decide) ?_
            refine lv_icmp_eq (tgt := 85) hx hb dX0_enoughAt_77 (by decide) (fun b77 => ?_) (fun b77 => ?_)
            · skip
              have q77 : en_.toInt = -1 := by rw [b77]; decide
              refine lv_iload hx hb dX0_enoughAt_85 (lv_at hl 1 rfl) ?_
              refine lv_istore_n (lv' := [(3, .int r33), (7, .int 1), (6, .int r33), (0, .ref (ad 3)), (1, .int (nI j)), (2, .int 1), (4, .int (nI (gr_adj G j).length)), (5, .int (nI i))]) hx hb dX0_enoughAt_87 rfl hl (by decide) rfl (fun ls hl => ?_)
              refine lv_iinc (v := (nI (i + 1))) (lv' := [(5, .int (nI (i + 1))), (3, .int r33), (7, .int 1), (6, .int r33), (0, .ref (ad 3)), (1, .int (nI j)), (2, .int 1), (4, .int (nI (gr_adj G j).length))]) hx hb dX0_enoughAt_88 hl (k := 7) rfl (nI_1 _) (by decide) rfl (fun ls hl => ?_)
              refine lv_goto (tgt := 15) hx hb dX0_enoughAt_91 (by decide) ?_
              exact ih15 (i + 1) r33 _ (by omega) (by omega) (by rw [hts_]; exact en_take hen w33 q72 (by first | exact Or.inl q77 | exact Or.inr ⟨fun q => (by first | omega | (cases q)), fun q => (by first | omega | (cases q))⟩)) (lv_sub hl [4, 5, 6, 1, 7, 0] rfl)
            · skip
              have q77 : ¬ en_.toInt = -1 := fun q => b77 (i_eq (by rw [q]; decide))
              refine lv_iload hx hb dX0_enoughAt_80 (lv_at hl 0 rfl) ?_
              refine lv_if_eq (tgt := 88) hx hb dX0_enoughAt_82 (by decide) (fun b82 => absurd b82 (by decide)) (fun b82 => ?_)
              refine lv_iload hx hb dX0_enoughAt_85 (lv_at hl 1 rfl) ?_
              refine lv_istore_n (lv' := [(3, .int r33), (7, .int 1), (6, .int r33), (0, .ref (ad 3)), (1, .int (nI j)), (2, .int 1), (4, .int (nI (gr_adj G j).length)), (5, .int (nI i))]) hx hb dX0_enoughAt_87 rfl hl (by decide) rfl (fun ls hl => ?_)
              refine lv_iinc (v := (nI (i + 1))) (lv' := [(5, .int (nI (i + 1))), (3, .int r33), (7, .int 1), (6, .int r33), (0, .ref (ad 3)), (1, .int (nI j)), (2, .int 1), (4, .int (nI (gr_adj G j).length))]) hx hb dX0_enoughAt_88 hl (k := 7) rfl (nI_1 _) (by decide) rfl (fun ls hl => ?_)
              refine lv_goto (tgt := 15) hx hb dX0_enoughAt_91 (by decide) ?_
              exact ih15 (i + 1) r33 _ (by omega) (by omega) (by rw [hts_]; exact en_take hen w33 q72 (by first | exact Or.inl q77 | exact Or.inr ⟨fun q => (by first | omega | (cases q)), fun q => (by first | omega | (cases q))⟩)) (lv_sub hl [4, 5, 6, 1, 7, 0] rfl)
  exact key15 ((gr_adj G j).length + 1) 0 (-1) _ (by omega) (by omega) (by rw [List.take_zero]; exact en_nil) (lv_sub hl [3, 4, 5, 2, 1, 0] rfl)
set_option maxHeartbeats 4000000 in
set_option maxRecDepth 100000 in
/--  -/
theorem ct_enoughAt_f (l : Launch) (en : en_T) (ad : Nat → Nat) (c : Nat → Nat → Int32) {G : gr_T} (hg : gi G c) (j : Nat) (hj : j < 7) (hf1 : ∀ u, u < 7 → -1 ≤ (c 14 u).toInt ∧ (c 14 u).toInt ≤ 100000) (hg1 : ∀ x, x < gr_E G → -100000 ≤ (c 15 x).toInt ∧ (c 15 x).toInt ≤ 100000) : Met l yX0_enoughAt wsX0_enoughAt (rm_ 4 0 0) (ct_Pc en [.ref (ad 3), .int (nI j), .int 0] (fun H => va_P en.1 vwCl (xw en ad c) H)) (ro_Qi (fun r => en_P (gr_adj G j) (gr_tgt G) (fun u => (c 14 u).toInt) (fun x => (c 15 x).toInt) false r.toInt)) 0 0 (fun _ => False) := by
  refine Met.ofW (cc := cX0_enoughAt) (maxL := 8) (ret := (some .int)) (by decide) rfl ?_
  intro p e s m args below meth co s₁ B hml hv
  obtain ⟨rfl, hE, hP⟩ := hv
  have hx := B.exec
  have hb := B.bytes
  have hr := B.returns
  have hts := atoms_spec (ws := wsX0_enoughAt) B.pre
  have hown : s.vm.findClass RX0 = some m.cls := findClass_of_methodNamed B.named
  have hlocks := B.notSynchronized
  have hl := lv_entry ([.ref (ad 3), .int (nI j), .int 0]) (n := 8) (Nat.le_of_ble_eq_true rfl)
  rw [lg_entry_eq]
  generalize (lg_sl ([.ref (ad 3), .int (nI j), .int 0]) ++ List.replicate (8 - (lg_sl ([.ref (ad 3), .int (nI j), .int 0])).length) Slot.unset).toArray = ls at hl ⊢
  have hl : lv_has ls 8 [(0, .ref (ad 3)), (1, .int (nI j)), (2, .int 0)] := hl
  have hadl := gr_adj_len hg.ok j
  refine lv_iconst (v := (-1)) hx hb dX0_enoughAt_0 (by decide) ?_
  refine lv_istore_n (lv' := [(3, .int (-1)), (0, .ref (ad 3)), (1, .int (nI j)), (2, .int 0)]) hx hb dX0_enoughAt_1 rfl hl (by decide) rfl (fun ls hl => ?_)
  refine lv_aload_n hx hb dX0_enoughAt_2 rfl (lv_at hl 1 rfl) ?_
  refine va_get (D := en.1) (ci := 0) (v := .ref (ad 1)) (C := RX0) (T := TX0) (N := 4) hx hb hts iw_X0_enoughAt_X0 hown hE.1 hP 3 rfl rfl 0 (by decide) (hts (.fieldLink RX0 18 "CreditGame$Credits" "graph" "LCreditGame$Graph;") (by decide +kernel)) (fun _ h9 => h9) rfl dX0_enoughAt_3 ?_
  refine lv_iload_n hx hb dX0_enoughAt_6 rfl (lv_at hl 2 rfl) ?_
  refine ro_calli (va_runVN (As := [.int (nI j)]) (rest := []) ⟨hx, hb, hml, hown, hts⟩ (ct_waysFrom l en ad c hg j hj) ⟨va_cnB 1 hts gX0_enoughAt_X1_waysFrom_n49 rfl rfl rfl (hE.2 _ (List.mem_of_getElem? (i := 33) rfl)) (hts (.initialized RX1) (by decide +kernel)) (by decide +kernel) ⟨Nat.le_of_ble_eq_true rfl, Nat.le_of_ble_eq_true rfl⟩, hts (.instanceMethod yX1_waysFrom) (by decide +kernel), hts (.selects RX1 yX1_waysFrom yX1_waysFrom) (by decide +kernel)⟩ (ct_preV hE (va_recv hE.1 hP (ci := 1) (q0 := 1) rfl rfl) hP) rfl rfl hl.1 rfl (lv_room (Nat.le_of_ble_eq_true rfl)) dX0_enoughAt_7 ⟨Nat.le_of_ble_eq_true rfl, Nat.le_of_ble_eq_true rfl⟩) (fun r7 w7 => ?_)
  obtain rfl : r7 = (nI (gr_adj G j).length) := w7
  refine lv_istore (lv' := [(4, .int (nI (gr_adj G j).length)), (3, .int (-1)), (0, .ref (ad 3)), (1, .int (nI j)), (2, .int 0)]) hx hb dX0_enoughAt_10 hl (by decide) rfl (fun ls hl => ?_)
  refine lv_iconst (v := (nI 0)) hx hb dX0_enoughAt_12 (by decide) ?_
  refine lv_istore (lv' := [(5, .int (nI 0)), (4, .int (nI (gr_adj G j).length)), (3, .int (-1)), (0, .ref (ad 3)), (1, .int (nI j)), (2, .int 0)]) hx hb dX0_enoughAt_13 hl (by decide) rfl (fun ls hl => ?_)
  have key15 : ∀ (n_ : Nat) (i : Nat) (en_ : Int32) (ls : Array Slot), i ≤ (gr_adj G j).length → (gr_adj G j).length + 1 ≤ i + n_ → en_P ((gr_adj G j).take i) (gr_tgt G) (fun u => (c 14 u).toInt) (fun x => (c 15 x).toInt) false en_.toInt → lv_has ls 8 [(0, .ref (ad 3)), (1, .int (nI j)), (2, .int 0), (3, .int en_), (4, .int (nI (gr_adj G j).length)), (5, .int (nI i))] → W p l e (headSpec wsX0_enoughAt (rm_ 4 0 0)).room s m ([.ref (ad 3), .int (nI j), .int 0] : List Value).toArray below meth co s.heap [] 0 0 (MQ below (ro_Qi (fun r => en_P (gr_adj G j) (gr_tgt G) (fun u => (c 14 u).toInt) (fun x => (c 15 x).toInt) false r.toInt)) ([.ref (ad 3), .int (nI j), .int 0] : List Value).toArray s 0 0 (fun _ => False)) (F0 m 15 ls []) := by
    intro n_
    induction n_ with
    | zero =>
      intro i en_ ls hi_ hin hen hl
      exact absurd hin (by omega)
    | succ n_ ih15 =>
      intro i en_ ls hi_ hin hen hl
      refine lv_iload hx hb dX0_enoughAt_15 (lv_at hl 5 rfl) ?_
      refine lv_iload hx hb dX0_enoughAt_17 (lv_at hl 4 rfl) ?_
      refine lv_icmp_ge (tgt := 94) hx hb dX0_enoughAt_19 (by decide) (fun b19 => ?_) (fun b19 => ?_)
      · skip
        have hin2 : i = (gr_adj G j).length := by
          rcases Nat.lt_or_ge i (gr_adj G j).length with q | q
          · exact absurd b19 (nI_ge q (by omega))
          · omega
        subst hin2
        rw [List.take_length] at hen
        refine lv_iload_n hx hb dX0_enoughAt_94 rfl (lv_at hl 3 rfl) ?_
        exact W.iret (v := en_) hx hb hr (fun t ht hW => ⟨_, rfl, hen, ht⟩) (fun q h => by cases h) dX0_enoughAt_95
      · skip
        have hlt : i < (gr_adj G j).length := by
          rcases Nat.lt_or_ge i (gr_adj G j).length with q | q
          · exact q
          · exact absurd (nI_le q (by omega)) b19
        have hjn : j < gr_n G := by
          rcases Nat.lt_or_ge j (gr_n G) with q | q
          · exact q
          · rw [gr_adj_ge (by omega)] at hlt; exact absurd hlt (Nat.not_lt_zero _)
        have hm := gr_adj_at hg.ok hjn hlt
        obtain ⟨x, hx_⟩ : ∃ z, z = (gr_adj G j).getD i 0 := ⟨_, rfl⟩
        have hts_ : (gr_adj G j).take (i + 1) = (gr_adj G j).take i ++ [x] := by
          have := gm_take (gr_adj G j) id 0 hlt
          rw [List.map_id] at this
          rw [this, hx_]; rfl
        rw [← hx_] at hm
        have hxE := (gr_adj_mem hg.ok hjn hm).1
        refine lv_aload_n hx hb dX0_enoughAt_22 rfl (lv_at hl 0 rfl) ?_
        refine lv_aload_n hx hb dX0_enoughAt_23 rfl (lv_at hl 0 rfl) ?_
        refine va_get (D := en.1) (ci := 0) (v := .ref (ad 1)) (C := RX0) (T := TX0) (N := 4) hx hb hts iw_X0_enoughAt_X0 hown hE.1 hP 3 rfl rfl 0 (by decide) (hts (.fieldLink RX0 18 "CreditGame$Credits" "graph" "LCreditGame$Graph;") (by decide +kernel)) (fun _ h9 => h9) rfl dX0_enoughAt_24 ?_
        refine lv_iload_n hx hb dX0_enoughAt_27 rfl (lv_at hl 1 rfl) ?_
        refine lv_iload hx hb dX0_enoughAt_28 (lv_at hl 5 rfl) ?_
        refine ro_calli (va_runVN (As := [.int (nI j), .int (nI i)]) (rest := [.ref (ad 3)]) ⟨hx, hb, hml, hown, hts⟩ (ct_wayFrom l en ad c hg j i hjn hlt) ⟨va_cnB 2 hts gX0_enoughAt_X1_wayFrom_n52 rfl rfl rfl (hE.2 _ (List.mem_of_getElem? (i := 34) rfl)) (hts (.initialized RX1) (by decide +kernel)) (by decide +kernel) ⟨Nat.le_of_ble_eq_true rfl, Nat.le_of_ble_eq_true rfl⟩, hts (.instanceMethod yX1_wayFrom) (by decide +kernel), hts (.selects RX1 yX1_wayFrom yX1_wayFrom) (by decide +kernel)⟩ (ct_preV hE (va_recv hE.1 hP (ci := 1) (q0 := 1) rfl rfl) hP) rfl rfl hl.1 rfl (lv_room (Nat.le_of_ble_eq_true rfl)) dX0_enoughAt_30 ⟨Nat.le_of_ble_eq_true rfl, Nat.le_of_ble_eq_true rfl⟩) (fun r30 w30 => ?_)
        obtain rfl : r30 = (nI x) := (w30.trans (by rw [hx_]))
        refine ro_calli (va_runV (As := [.int (nI x)]) (rest := []) ⟨hx, hb, hml, hown, hts⟩ (ct_needBefore l en ad c hg x hxE hf1 (hg1 x hxE)) (cwV 1 hts gX0_enoughAt_X0_needBefore rfl rfl rfl (by decide +kernel) ⟨Nat.le_of_ble_eq_true rfl, Nat.le_of_ble_eq_true rfl⟩) (ct_preV hE (va_recv hE.1 hP (ci := 0) (q0 := 3) rfl rfl) hP) rfl rfl hl.1 rfl (lv_room (Nat.le_of_ble_eq_true rfl)) dX0_enoughAt_33 ⟨Nat.le_of_ble_eq_true rfl, Nat.le_of_ble_eq_true rfl⟩) (fun r33 w33 => ?_)
        refine lv_istore (lv' := [(6, .int r33), (0, .ref (ad 3)), (1, .int (nI j)), (2, .int 0), (3, .int en_), (4, .int (nI (gr_adj G j).length)), (5, .int (nI i))]) hx hb dX0_enoughAt_36 hl (by decide) rfl (fun ls hl => ?_)
        refine lv_iload_n hx hb dX0_enoughAt_38 rfl (lv_at hl 3 rfl) ?_
        refine lv_if_eq (tgt := 56) hx hb dX0_enoughAt_39 (by decide) (fun b39 => ?_) (fun b39 => absurd b39 (fun q => q rfl))
        refine lv_iload hx hb dX0_enoughAt_56 (lv_at hl 0 rfl) ?_
        refine lv_iload_n hx hb dX0_enoughAt_58 rfl (lv_at hl 4 rfl) ?_
        refine lv_icmp_le (tgt := 66) hx hb dX0_enoughAt_59 (by decide) (fun b59 => ?_) (fun b59 => ?_)
        · skip
          have q59 := i_le.mp b59
          refine lv_iconst (v := 0) hx hb dX0_enoughAt_66 (by decide) ?_
          refine lv_istore (lv' := [(7, .int 0), (6, .int r33), (0, .ref (ad 3)), (1, .int (nI j)), (2, .int 0), (3, .int en_), (4, .int (nI (gr_adj G j).length)), (5, .int (nI i))]) hx hb dX0_enoughAt_67 hl (by decide) rfl (fun ls hl => ?_)
          refine lv_iload hx hb dX0_enoughAt_69 (lv_at hl 1 rfl) ?_
          refine lv_iconst (v := (-1)) hx hb dX0_enoughAt_71 (by decide) ?_
          refine lv_icmp_eq (tgt := 88) hx hb dX0_enoughAt_72 (by decide) (fun b72 => ?_) (fun b72 => ?_)
          · skip
            have q72 : r33.toInt = -1 := by rw [b72]; decide
            refine lv_iinc (v := (nI (i + 1))) (lv' := [(5, .int (nI (i + 1))), (7, .int 0), (6, .int r33), (0, .ref (ad 3)), (1, .int (nI j)), (2, .int 0), (3, .int en_), (4, .int (nI (gr_adj G j).length))]) hx hb dX0_enoughAt_88 hl (k := 7) rfl (nI_1 _) (by decide) rfl (fun ls hl => ?_)
            refine lv_goto (tgt := 15) hx hb dX0_enoughAt_91 (by decide) ?_
            exact ih15 (i + 1) en_ _ (by omega) (by omega) (by rw [hts_]; exact en_keep hen w33 (by first | exact Or.inl q72 | exact Or.inr ⟨q77, fun q => (by first | omega | (cases q)), fun q => (by first | omega | (cases q))⟩)) (lv_sub hl [3, 4, 5, 6, 7, 0] rfl)
          · skip
            have q72 : ¬ r33.toInt = -1 := fun q => b72 (i_eq (by rw [q]; decide))
            refine lv_iload_n hx hb dX0_enoughAt_75 rfl (lv_at hl 5 rfl) ?_
            refine lv_iconst (v := (-1)) hx hb dX0_enoughAt_76 (by decide) ?_
            refine lv_icmp_eq (tgt := 85) hx hb dX0_enoughAt_77 (by decide) (fun b77 => ?_) (fun b77 => ?_)
            · skip
              have q77 : en_.toInt = -1 := by rw [b77]; decide
              refine lv_iload hx hb dX0_enoughAt_85 (lv_at hl 1 rfl) ?_
              refine lv_istore_n (lv' := [(3, .int r33), (7, .int 0), (6, .int r33), (0, .ref (ad 3)), (1, .int (nI j)), (2, .int 0), (4, .int (nI (gr_adj G j).length)), (5, .int (nI i))]) hx hb dX0_enoughAt_87 rfl hl (by decide) rfl (fun ls hl => ?_)
              refine lv_iinc (v := (nI (i + 1))) (lv' := [(5, .int (nI (i + 1))), (3, .int r33), (7, .int 0), (6, .int r33), (0, .ref (ad 3)), (1, .int (nI j)), (2, .int 0), (4, .int (nI (gr_adj G j).length))]) hx hb dX0_enoughAt_88 hl (k := 7) rfl (nI_1 _) (by decide) rfl (fun ls hl => ?_)
              refine lv_goto (tgt := 15) hx hb dX0_enoughAt_91 (by decide) ?_
              exact ih15 (i + 1) r33 _ (by omega) (by omega) (by rw [hts_]; exact en_take hen w33 q72 (by first | exact Or.inl q77 | exact Or.inr ⟨fun q => (by first | omega | (cases q)), fun q => (by first | omega | (cases q))⟩)) (lv_sub hl [4, 5, 6, 1, 7, 0] rfl)
            · skip
              have q77 : ¬ en_.toInt = -1 := fun q => b77 (i_eq (by rw [q]; decide))
              refine lv_iload hx hb dX0_enoughAt_80 (lv_at hl 0 rfl) ?_
              refine lv_if_eq (tgt := 88) hx hb dX0_enoughAt_82 (by decide) (fun b82 => ?_) (fun b82 => absurd b82 (fun q => q rfl))
              refine lv_iinc (v := (nI (i + 1))) (lv' := [(5, .int (nI (i + 1))), (7, .int 0), (6, .int r33), (0, .ref (ad 3)), (1, .int (nI j)), (2, .int 0), (3, .int en_), (4, .int (nI (gr_adj G j).length))]) hx hb dX0_enoughAt_88 hl (k := 7) rfl (nI_1 _) (by decide) rfl (fun ls hl => ?_)
              refine lv_goto (tgt := 15) hx hb dX0_enoughAt_91 (by decide) ?_
              exact ih15 (i + 1) en_ _ (by omega) (by omega) (by rw [hts_]; exact en_keep hen w33 (by first | exact Or.inl q72 | exact Or.inr ⟨q77, fun q => (by first | omega | (cases q)), fun q => (by first | omega | (cases q))⟩)) (lv_sub hl [3, 4, 5, 6, 7, 0] rfl)
        · skip
          have q59 : ¬ _ := fun q => b59 (i_le.mpr q)
          refine lv_iconst (v := 1) hx hb dX0_enoughAt_62 (by decide) ?_
          refine lv_goto (tgt := 67) hx hb dX0_enoughAt_63 (by decide) ?_
          refine lv_istore (lv' := [(7, .int 1), (6, .int r33), (0, .ref (ad 3)), (1, .int (nI j)), (2, .int 0), (3, .int en_), (4, .int (nI (gr_adj G j).length)), (5, .int (nI i))]) hx hb dX0_enoughAt_67 hl (by decide) rfl (fun ls hl => ?_)
          refine lv_iload hx hb dX0_enoughAt_69 (lv_at hl 1 rfl) ?_
          refine lv_iconst (v := (-1)) hx hb dX0_enoughAt_71 (by decide) ?_
          refine lv_icmp_eq (tgt := 88) hx hb dX0_enoughAt_72 (by decide) (fun b72 => ?_) (fun b72 => ?_)
          · skip
            have q72 : r33.toInt = -1 := by rw [b72]; decide
            refine lv_iinc (v := (nI (i + 1))) (lv' := [(5, .int (nI (i + 1))), (7, .int 1), (6, .int r33), (0, .ref (ad 3)), (1, .int (nI j)), (2, .int 0), (3, .int en_), (4, .int (nI (gr_adj G j).length))]) hx hb dX0_enoughAt_88 hl (k := 7) rfl (nI_1 _) (by decide) rfl (fun ls hl => ?_)
            refine lv_goto (tgt := 15) hx hb dX0_enoughAt_91 (by decide) ?_
            exact ih15 (i + 1) en_ _ (by omega) (by omega) (by rw [hts_]; exact en_keep hen w33 (by first | exact Or.inl q72 | exact Or.inr ⟨q77, fun q => (by first | omega | (cases q)), fun q => (by first | omega | (cases q))⟩)) (lv_sub hl [3, 4, 5, 6, 7, 0] rfl)
          · skip
            have q72 : ¬ r33.toInt = -1 := fun q => b72 (i_eq (by rw [q]; decide))
            refine lv_iload_n hx hb dX0_enoughAt_75 rfl (lv_at hl 5 rfl) ?_
            refine lv_iconst (v := (-1)) hx hb dX0_enoughAt_76 (by decide) ?_
            refine lv_icmp_eq (tgt := 85) hx hb dX0_enoughAt_77 (by decide) (fun b77 => ?_) (fun b77 => ?_)
            · skip
              have q77 : en_.toInt = -1 := by rw [b77]; decide
              refine lv_iload hx hb dX0_enoughAt_85 (lv_at hl 1 rfl) ?_
              refine lv_istore_n (lv' := [(3, .int r33), (7, .int 1), (6, .int r33), (0, .ref (ad 3)), (1, .int (nI j)), (2, .int 0), (4, .int (nI (gr_adj G j).length)), (5, .int (nI i))]) hx hb dX0_enoughAt_87 rfl hl (by decide) rfl (fun ls hl => ?_)
              refine lv_iinc (v := (nI (i + 1))) (lv' := [(5, .int (nI (i + 1))), (3, .int r33), (7, .int 1), (6, .int r33), (0, .ref (ad 3)), (1, .int (nI j)), (2, .int 0), (4, .int (nI (gr_adj G j).length))]) hx hb dX0_enoughAt_88 hl (k := 7) rfl (nI_1 _) (by decide) rfl (fun ls hl => ?_)
              refine lv_goto (tgt := 15) hx hb dX0_enoughAt_91 (by decide) ?_
              exact ih15 (i + 1) r33 _ (by omega) (by omega) (by rw [hts_]; exact en_take hen w33 q72 (by first | exact Or.inl q77 | exact Or.inr ⟨fun q => (by first | omega | (cases q)), fun q => (by first | omega | (cases q))⟩)) (lv_sub hl [4, 5, 6, 1, 7, 0] rfl)
            · skip
              have q77 : ¬ en_.toInt = -1 := fun q => b77 (i_eq (by rw [q]; decide))
              refine lv_iload hx hb dX0_enoughAt_80 (lv_at hl 0 rfl) ?_
              refine lv_if_eq (tgt := 88) hx hb dX0_enoughAt_82 (by decide) (fun b82 => absurd b82 (by decide)) (fun b82 => ?_)
              refine lv_iload hx hb dX0_enoughAt_85 (lv_at hl 1 rfl) ?_
              refine lv_istore_n (lv' := [(3, .int r33), (7, .int 1), (6, .int r33), (0, .ref (ad 3)), (1, .int (nI j)), (2, .int 0), (4, .int (nI (gr_adj G j).length)), (5, .int (nI i))]) hx hb dX0_enoughAt_87 rfl hl (by decide) rfl (fun ls hl => ?_)
              refine lv_iinc (v := (nI (i + 1))) (lv' := [(5, .int (nI (i + 1))), (3, .int r33), (7, .int 1), (6, .int r33), (0, .ref (ad 3)), (1, .int (nI j)), (2, .int 0), (4, .int (nI (gr_adj G j).length))]) hx hb dX0_enoughAt_88 hl (k := 7) rfl (nI_1 _) (by decide) rfl (fun ls hl => ?_)
              refine lv_goto (tgt := 15) hx hb dX0_enoughAt_91 (by decide) ?_
              exact ih15 (i + 1) r33 _ (by omega) (by omega) (by rw [hts_]; exact en_take hen w33 q72 (by first | exact Or.inl q77 | exact Or.inr ⟨fun q => (by first | omega | (cases q)), fun q => (by first | omega | (cases q))⟩)) (lv_sub hl [4, 5, 6, 1, 7, 0] rfl)
  exact key15 ((gr_adj G j).length + 1) 0 (-1) _ (by omega) (by omega) (by rw [List.take_zero]; exact en_nil) (lv_sub hl [3, 4, 5, 2, 1, 0] rfl)
end
