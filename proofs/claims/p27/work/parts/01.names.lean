-- ===== PART A: goes FIRST, ahead of the names: the tables' words, and 'selects' of the private methods out of them =====
/-- a private method of a class that the tables say can be made, by its rows of tables_1 -/
def lw_okq (q : MethodName × Nat) : Prop := (q.1.cls ≠ "java/lang/invoke/MethodHandle" ∧ q.1.cls ≠ "java/lang/invoke/VarHandle") ∧ Cond.instantiable q.1.cls q.2 ∈ tables_1 ∧ Cond.privateMethod q.1 ∈ tables_1 ∧ Cond.instanceMethod q.1 ∈ tables_1
theorem lw_p0 : lw_okq (⟨"StringVotes$Parliament", "hasPuppet", "(I)Z"⟩, 13) := ⟨⟨by decide +kernel, by decide +kernel⟩, List.mem_of_getElem? (i := 19) (by decide +kernel), List.mem_of_getElem? (i := 239) (by decide +kernel), List.mem_of_getElem? (i := 240) (by decide +kernel)⟩
theorem lw_p1 : lw_okq (⟨"StringVotes$Row", "get", "(I)I"⟩, 1) := ⟨⟨by decide +kernel, by decide +kernel⟩, List.mem_of_getElem? (i := 25) (by decide +kernel), List.mem_of_getElem? (i := 244) (by decide +kernel), List.mem_of_getElem? (i := 245) (by decide +kernel)⟩
theorem lw_p2 : lw_okq (⟨"StringVotes$Parliament", "isPulled", "(I)Z"⟩, 13) := ⟨⟨by decide +kernel, by decide +kernel⟩, List.mem_of_getElem? (i := 19) (by decide +kernel), List.mem_of_getElem? (i := 248) (by decide +kernel), List.mem_of_getElem? (i := 249) (by decide +kernel)⟩
theorem lw_p3 : lw_okq (⟨"StringVotes$Strings", "howManyAt", "(I)I"⟩, 6) := ⟨⟨by decide +kernel, by decide +kernel⟩, List.mem_of_getElem? (i := 39) (by decide +kernel), List.mem_of_getElem? (i := 254) (by decide +kernel), List.mem_of_getElem? (i := 255) (by decide +kernel)⟩
theorem lw_p4 : lw_okq (⟨"StringVotes$Parliament", "membersOf", "(I)I"⟩, 13) := ⟨⟨by decide +kernel, by decide +kernel⟩, List.mem_of_getElem? (i := 19) (by decide +kernel), List.mem_of_getElem? (i := 259) (by decide +kernel), List.mem_of_getElem? (i := 260) (by decide +kernel)⟩
theorem lw_p5 : lw_okq (⟨"StringVotes$Parliament", "seatsIn", "(I)I"⟩, 13) := ⟨⟨by decide +kernel, by decide +kernel⟩, List.mem_of_getElem? (i := 19) (by decide +kernel), List.mem_of_getElem? (i := 263) (by decide +kernel), List.mem_of_getElem? (i := 264) (by decide +kernel)⟩
theorem lw_p6 : lw_okq (⟨"StringVotes$Parliament", "groupsByJoining", "()I"⟩, 13) := ⟨⟨by decide +kernel, by decide +kernel⟩, List.mem_of_getElem? (i := 19) (by decide +kernel), List.mem_of_getElem? (i := 276) (by decide +kernel), List.mem_of_getElem? (i := 277) (by decide +kernel)⟩
theorem lw_p7 : lw_okq (⟨"StringVotes$Parliament", "groupsByWalking", "()I"⟩, 13) := ⟨⟨by decide +kernel, by decide +kernel⟩, List.mem_of_getElem? (i := 19) (by decide +kernel), List.mem_of_getElem? (i := 280) (by decide +kernel), List.mem_of_getElem? (i := 281) (by decide +kernel)⟩
theorem lw_p8 : lw_okq (⟨"StringVotes$Parliament", "walkFrom", "(I)I"⟩, 13) := ⟨⟨by decide +kernel, by decide +kernel⟩, List.mem_of_getElem? (i := 19) (by decide +kernel), List.mem_of_getElem? (i := 284) (by decide +kernel), List.mem_of_getElem? (i := 285) (by decide +kernel)⟩
theorem lw_p9 : lw_okq (⟨"StringVotes$Strings", "oneStringFurther", "(I)I"⟩, 6) := ⟨⟨by decide +kernel, by decide +kernel⟩, List.mem_of_getElem? (i := 39) (by decide +kernel), List.mem_of_getElem? (i := 288) (by decide +kernel), List.mem_of_getElem? (i := 289) (by decide +kernel)⟩
theorem lw_p10 : lw_okq (⟨"StringVotes$Parliament", "wouldPass", "()I"⟩, 13) := ⟨⟨by decide +kernel, by decide +kernel⟩, List.mem_of_getElem? (i := 19) (by decide +kernel), List.mem_of_getElem? (i := 292) (by decide +kernel), List.mem_of_getElem? (i := 293) (by decide +kernel)⟩
theorem lw_p11 : lw_okq (⟨"StringVotes$Parliament", "pulledPuppets", "()I"⟩, 13) := ⟨⟨by decide +kernel, by decide +kernel⟩, List.mem_of_getElem? (i := 19) (by decide +kernel), List.mem_of_getElem? (i := 296) (by decide +kernel), List.mem_of_getElem? (i := 297) (by decide +kernel)⟩
theorem lw_p12 : lw_okq (⟨"StringVotes$Book", "kept", "()I"⟩, 3) := ⟨⟨by decide +kernel, by decide +kernel⟩, List.mem_of_getElem? (i := 76) (by decide +kernel), List.mem_of_getElem? (i := 301) (by decide +kernel), List.mem_of_getElem? (i := 302) (by decide +kernel)⟩
theorem lw_p13 : lw_okq (⟨"StringVotes$Strings", "has", "(I)Z"⟩, 6) := ⟨⟨by decide +kernel, by decide +kernel⟩, List.mem_of_getElem? (i := 39) (by decide +kernel), List.mem_of_getElem? (i := 315) (by decide +kernel), List.mem_of_getElem? (i := 316) (by decide +kernel)⟩
theorem lw_p14 : lw_okq (⟨"StringVotes", "hangTogetherWithout", "(I)Z"⟩, 11) := ⟨⟨by decide +kernel, by decide +kernel⟩, List.mem_of_getElem? (i := 11) (by decide +kernel), List.mem_of_getElem? (i := 319) (by decide +kernel), List.mem_of_getElem? (i := 320) (by decide +kernel)⟩
theorem lw_p15 : lw_okq (⟨"StringVotes$Parliament", "copyFrom", "(LStringVotes$Parliament;)V"⟩, 13) := ⟨⟨by decide +kernel, by decide +kernel⟩, List.mem_of_getElem? (i := 19) (by decide +kernel), List.mem_of_getElem? (i := 323) (by decide +kernel), List.mem_of_getElem? (i := 324) (by decide +kernel)⟩
def lw_privs_1 : List (MethodName × Nat) := [(⟨"StringVotes$Parliament", "hasPuppet", "(I)Z"⟩, 13), (⟨"StringVotes$Row", "get", "(I)I"⟩, 1), (⟨"StringVotes$Parliament", "isPulled", "(I)Z"⟩, 13), (⟨"StringVotes$Strings", "howManyAt", "(I)I"⟩, 6), (⟨"StringVotes$Parliament", "membersOf", "(I)I"⟩, 13), (⟨"StringVotes$Parliament", "seatsIn", "(I)I"⟩, 13), (⟨"StringVotes$Parliament", "groupsByJoining", "()I"⟩, 13), (⟨"StringVotes$Parliament", "groupsByWalking", "()I"⟩, 13), (⟨"StringVotes$Parliament", "walkFrom", "(I)I"⟩, 13), (⟨"StringVotes$Strings", "oneStringFurther", "(I)I"⟩, 6), (⟨"StringVotes$Parliament", "wouldPass", "()I"⟩, 13), (⟨"StringVotes$Parliament", "pulledPuppets", "()I"⟩, 13), (⟨"StringVotes$Book", "kept", "()I"⟩, 3), (⟨"StringVotes$Strings", "has", "(I)Z"⟩, 6), (⟨"StringVotes", "hangTogetherWithout", "(I)Z"⟩, 11), (⟨"StringVotes$Parliament", "copyFrom", "(LStringVotes$Parliament;)V"⟩, 13)]
theorem lw_r1 : ∀ q ∈ lw_privs_1, lw_okq q := List.forall_mem_cons.mpr ⟨lw_p0, List.forall_mem_cons.mpr ⟨lw_p1, List.forall_mem_cons.mpr ⟨lw_p2, List.forall_mem_cons.mpr ⟨lw_p3, List.forall_mem_cons.mpr ⟨lw_p4, List.forall_mem_cons.mpr ⟨lw_p5, List.forall_mem_cons.mpr ⟨lw_p6, List.forall_mem_cons.mpr ⟨lw_p7, List.forall_mem_cons.mpr ⟨lw_p8, List.forall_mem_cons.mpr ⟨lw_p9, List.forall_mem_cons.mpr ⟨lw_p10, List.forall_mem_cons.mpr ⟨lw_p11, List.forall_mem_cons.mpr ⟨lw_p12, List.forall_mem_cons.mpr ⟨lw_p13, List.forall_mem_cons.mpr ⟨lw_p14, List.forall_mem_cons.mpr ⟨lw_p15, fun _ h => absurd h List.not_mem_nil⟩⟩⟩⟩⟩⟩⟩⟩⟩⟩⟩⟩⟩⟩⟩⟩
theorem lw_p16 : lw_okq (⟨"StringVotes$Row", "copyFrom", "(LStringVotes$Row;)V"⟩, 1) := ⟨⟨by decide +kernel, by decide +kernel⟩, List.mem_of_getElem? (i := 25) (by decide +kernel), List.mem_of_getElem? (i := 327) (by decide +kernel), List.mem_of_getElem? (i := 328) (by decide +kernel)⟩
theorem lw_p17 : lw_okq (⟨"StringVotes$Strings", "copyFrom", "(LStringVotes$Strings;)V"⟩, 6) := ⟨⟨by decide +kernel, by decide +kernel⟩, List.mem_of_getElem? (i := 39) (by decide +kernel), List.mem_of_getElem? (i := 335) (by decide +kernel), List.mem_of_getElem? (i := 336) (by decide +kernel)⟩
theorem lw_p18 : lw_okq (⟨"StringVotes$Book", "copyFrom", "(LStringVotes$Book;)V"⟩, 3) := ⟨⟨by decide +kernel, by decide +kernel⟩, List.mem_of_getElem? (i := 76) (by decide +kernel), List.mem_of_getElem? (i := 340) (by decide +kernel), List.mem_of_getElem? (i := 341) (by decide +kernel)⟩
theorem lw_p19 : lw_okq (⟨"StringVotes$Parliament", "cutString", "(I)I"⟩, 13) := ⟨⟨by decide +kernel, by decide +kernel⟩, List.mem_of_getElem? (i := 19) (by decide +kernel), List.mem_of_getElem? (i := 345) (by decide +kernel), List.mem_of_getElem? (i := 346) (by decide +kernel)⟩
theorem lw_p20 : lw_okq (⟨"StringVotes$Strings", "removeAt", "(I)V"⟩, 6) := ⟨⟨by decide +kernel, by decide +kernel⟩, List.mem_of_getElem? (i := 39) (by decide +kernel), List.mem_of_getElem? (i := 351) (by decide +kernel), List.mem_of_getElem? (i := 352) (by decide +kernel)⟩
theorem lw_p21 : lw_okq (⟨"StringVotes$Row", "removeAt", "(I)V"⟩, 1) := ⟨⟨by decide +kernel, by decide +kernel⟩, List.mem_of_getElem? (i := 25) (by decide +kernel), List.mem_of_getElem? (i := 355) (by decide +kernel), List.mem_of_getElem? (i := 356) (by decide +kernel)⟩
theorem lw_p22 : lw_okq (⟨"StringVotes$Parliament", "tellGroups", "()V"⟩, 13) := ⟨⟨by decide +kernel, by decide +kernel⟩, List.mem_of_getElem? (i := 19) (by decide +kernel), List.mem_of_getElem? (i := 359) (by decide +kernel), List.mem_of_getElem? (i := 360) (by decide +kernel)⟩
theorem lw_p23 : lw_okq (⟨"StringVotes$Row", "put", "(II)V"⟩, 1) := ⟨⟨by decide +kernel, by decide +kernel⟩, List.mem_of_getElem? (i := 25) (by decide +kernel), List.mem_of_getElem? (i := 363) (by decide +kernel), List.mem_of_getElem? (i := 364) (by decide +kernel)⟩
theorem lw_p24 : lw_okq (⟨"StringVotes$Parliament", "joinBy", "(I)V"⟩, 13) := ⟨⟨by decide +kernel, by decide +kernel⟩, List.mem_of_getElem? (i := 19) (by decide +kernel), List.mem_of_getElem? (i := 367) (by decide +kernel), List.mem_of_getElem? (i := 368) (by decide +kernel)⟩
theorem lw_p25 : lw_okq (⟨"StringVotes$Parliament", "tellVotes", "()V"⟩, 13) := ⟨⟨by decide +kernel, by decide +kernel⟩, List.mem_of_getElem? (i := 19) (by decide +kernel), List.mem_of_getElem? (i := 373) (by decide +kernel), List.mem_of_getElem? (i := 374) (by decide +kernel)⟩
theorem lw_p26 : lw_okq (⟨"StringVotes$Parliament", "pulledVote", "(I)I"⟩, 13) := ⟨⟨by decide +kernel, by decide +kernel⟩, List.mem_of_getElem? (i := 19) (by decide +kernel), List.mem_of_getElem? (i := 377) (by decide +kernel), List.mem_of_getElem? (i := 378) (by decide +kernel)⟩
theorem lw_p27 : lw_okq (⟨"StringVotes$Parliament", "leadingVote", "(I)I"⟩, 13) := ⟨⟨by decide +kernel, by decide +kernel⟩, List.mem_of_getElem? (i := 19) (by decide +kernel), List.mem_of_getElem? (i := 381) (by decide +kernel), List.mem_of_getElem? (i := 382) (by decide +kernel)⟩
theorem lw_p28 : lw_okq (⟨"StringVotes$Parliament", "hangTogether", "(II)Z"⟩, 13) := ⟨⟨by decide +kernel, by decide +kernel⟩, List.mem_of_getElem? (i := 19) (by decide +kernel), List.mem_of_getElem? (i := 385) (by decide +kernel), List.mem_of_getElem? (i := 386) (by decide +kernel)⟩
theorem lw_p29 : lw_okq (⟨"StringVotes$Book", "entry", "(II)I"⟩, 3) := ⟨⟨by decide +kernel, by decide +kernel⟩, List.mem_of_getElem? (i := 76) (by decide +kernel), List.mem_of_getElem? (i := 400) (by decide +kernel), List.mem_of_getElem? (i := 401) (by decide +kernel)⟩
theorem lw_p30 : lw_okq (⟨"StringVotes$Parliament", "arePair", "(II)Z"⟩, 13) := ⟨⟨by decide +kernel, by decide +kernel⟩, List.mem_of_getElem? (i := 19) (by decide +kernel), List.mem_of_getElem? (i := 412) (by decide +kernel), List.mem_of_getElem? (i := 413) (by decide +kernel)⟩
theorem lw_p31 : lw_okq (⟨"StringVotes$Parliament", "reasonAgainstString", "(III)I"⟩, 13) := ⟨⟨by decide +kernel, by decide +kernel⟩, List.mem_of_getElem? (i := 19) (by decide +kernel), List.mem_of_getElem? (i := 417) (by decide +kernel), List.mem_of_getElem? (i := 418) (by decide +kernel)⟩
def lw_privs_2 : List (MethodName × Nat) := [(⟨"StringVotes$Row", "copyFrom", "(LStringVotes$Row;)V"⟩, 1), (⟨"StringVotes$Strings", "copyFrom", "(LStringVotes$Strings;)V"⟩, 6), (⟨"StringVotes$Book", "copyFrom", "(LStringVotes$Book;)V"⟩, 3), (⟨"StringVotes$Parliament", "cutString", "(I)I"⟩, 13), (⟨"StringVotes$Strings", "removeAt", "(I)V"⟩, 6), (⟨"StringVotes$Row", "removeAt", "(I)V"⟩, 1), (⟨"StringVotes$Parliament", "tellGroups", "()V"⟩, 13), (⟨"StringVotes$Row", "put", "(II)V"⟩, 1), (⟨"StringVotes$Parliament", "joinBy", "(I)V"⟩, 13), (⟨"StringVotes$Parliament", "tellVotes", "()V"⟩, 13), (⟨"StringVotes$Parliament", "pulledVote", "(I)I"⟩, 13), (⟨"StringVotes$Parliament", "leadingVote", "(I)I"⟩, 13), (⟨"StringVotes$Parliament", "hangTogether", "(II)Z"⟩, 13), (⟨"StringVotes$Book", "entry", "(II)I"⟩, 3), (⟨"StringVotes$Parliament", "arePair", "(II)Z"⟩, 13), (⟨"StringVotes$Parliament", "reasonAgainstString", "(III)I"⟩, 13)]
theorem lw_r2 : ∀ q ∈ lw_privs_2, lw_okq q := List.forall_mem_cons.mpr ⟨lw_p16, List.forall_mem_cons.mpr ⟨lw_p17, List.forall_mem_cons.mpr ⟨lw_p18, List.forall_mem_cons.mpr ⟨lw_p19, List.forall_mem_cons.mpr ⟨lw_p20, List.forall_mem_cons.mpr ⟨lw_p21, List.forall_mem_cons.mpr ⟨lw_p22, List.forall_mem_cons.mpr ⟨lw_p23, List.forall_mem_cons.mpr ⟨lw_p24, List.forall_mem_cons.mpr ⟨lw_p25, List.forall_mem_cons.mpr ⟨lw_p26, List.forall_mem_cons.mpr ⟨lw_p27, List.forall_mem_cons.mpr ⟨lw_p28, List.forall_mem_cons.mpr ⟨lw_p29, List.forall_mem_cons.mpr ⟨lw_p30, List.forall_mem_cons.mpr ⟨lw_p31, fun _ h => absurd h List.not_mem_nil⟩⟩⟩⟩⟩⟩⟩⟩⟩⟩⟩⟩⟩⟩⟩⟩
theorem lw_p32 : lw_okq (⟨"StringVotes$Strings", "areTied", "(II)Z"⟩, 6) := ⟨⟨by decide +kernel, by decide +kernel⟩, List.mem_of_getElem? (i := 39) (by decide +kernel), List.mem_of_getElem? (i := 421) (by decide +kernel), List.mem_of_getElem? (i := 422) (by decide +kernel)⟩
theorem lw_p33 : lw_okq (⟨"StringVotes$Parliament", "reasonAgainstPull", "(II)I"⟩, 13) := ⟨⟨by decide +kernel, by decide +kernel⟩, List.mem_of_getElem? (i := 19) (by decide +kernel), List.mem_of_getElem? (i := 432) (by decide +kernel), List.mem_of_getElem? (i := 433) (by decide +kernel)⟩
theorem lw_p34 : lw_okq (⟨"StringVotes$Parliament", "addPuppet", "(II)I"⟩, 13) := ⟨⟨by decide +kernel, by decide +kernel⟩, List.mem_of_getElem? (i := 19) (by decide +kernel), List.mem_of_getElem? (i := 452) (by decide +kernel), List.mem_of_getElem? (i := 453) (by decide +kernel)⟩
theorem lw_p35 : lw_okq (⟨"StringVotes", "settle", "(I)I"⟩, 11) := ⟨⟨by decide +kernel, by decide +kernel⟩, List.mem_of_getElem? (i := 11) (by decide +kernel), List.mem_of_getElem? (i := 458) (by decide +kernel), List.mem_of_getElem? (i := 459) (by decide +kernel)⟩
theorem lw_p36 : lw_okq (⟨"StringVotes", "remember", "()V"⟩, 11) := ⟨⟨by decide +kernel, by decide +kernel⟩, List.mem_of_getElem? (i := 11) (by decide +kernel), List.mem_of_getElem? (i := 465) (by decide +kernel), List.mem_of_getElem? (i := 466) (by decide +kernel)⟩
theorem lw_p37 : lw_okq (⟨"StringVotes", "pastState", "(I)LStringVotes$Parliament;"⟩, 11) := ⟨⟨by decide +kernel, by decide +kernel⟩, List.mem_of_getElem? (i := 11) (by decide +kernel), List.mem_of_getElem? (i := 469) (by decide +kernel), List.mem_of_getElem? (i := 470) (by decide +kernel)⟩
theorem lw_p38 : lw_okq (⟨"StringVotes$Parliament", "addString", "(IIII)I"⟩, 13) := ⟨⟨by decide +kernel, by decide +kernel⟩, List.mem_of_getElem? (i := 19) (by decide +kernel), List.mem_of_getElem? (i := 478) (by decide +kernel), List.mem_of_getElem? (i := 479) (by decide +kernel)⟩
theorem lw_p39 : lw_okq (⟨"StringVotes$Strings", "append", "(IIII)I"⟩, 6) := ⟨⟨by decide +kernel, by decide +kernel⟩, List.mem_of_getElem? (i := 39) (by decide +kernel), List.mem_of_getElem? (i := 485) (by decide +kernel), List.mem_of_getElem? (i := 486) (by decide +kernel)⟩
theorem lw_p40 : lw_okq (⟨"StringVotes$Parliament", "cutStringsOf", "(I)I"⟩, 13) := ⟨⟨by decide +kernel, by decide +kernel⟩, List.mem_of_getElem? (i := 19) (by decide +kernel), List.mem_of_getElem? (i := 502) (by decide +kernel), List.mem_of_getElem? (i := 503) (by decide +kernel)⟩
theorem lw_p41 : lw_okq (⟨"StringVotes$Strings", "removeAllOf", "(I)I"⟩, 6) := ⟨⟨by decide +kernel, by decide +kernel⟩, List.mem_of_getElem? (i := 39) (by decide +kernel), List.mem_of_getElem? (i := 506) (by decide +kernel), List.mem_of_getElem? (i := 507) (by decide +kernel)⟩
theorem lw_p42 : lw_okq (⟨"StringVotes$Parliament", "pullTo", "(II)I"⟩, 13) := ⟨⟨by decide +kernel, by decide +kernel⟩, List.mem_of_getElem? (i := 19) (by decide +kernel), List.mem_of_getElem? (i := 515) (by decide +kernel), List.mem_of_getElem? (i := 516) (by decide +kernel)⟩
theorem lw_p43 : lw_okq (⟨"StringVotes$Parliament", "letGo", "(I)I"⟩, 13) := ⟨⟨by decide +kernel, by decide +kernel⟩, List.mem_of_getElem? (i := 19) (by decide +kernel), List.mem_of_getElem? (i := 524) (by decide +kernel), List.mem_of_getElem? (i := 525) (by decide +kernel)⟩
theorem lw_p44 : lw_okq (⟨"StringVotes$Parliament", "bindPulls", "(I)I"⟩, 13) := ⟨⟨by decide +kernel, by decide +kernel⟩, List.mem_of_getElem? (i := 19) (by decide +kernel), List.mem_of_getElem? (i := 532) (by decide +kernel), List.mem_of_getElem? (i := 533) (by decide +kernel)⟩
theorem lw_p45 : lw_okq (⟨"StringVotes$Parliament", "holdSession", "()I"⟩, 13) := ⟨⟨by decide +kernel, by decide +kernel⟩, List.mem_of_getElem? (i := 19) (by decide +kernel), List.mem_of_getElem? (i := 543) (by decide +kernel), List.mem_of_getElem? (i := 544) (by decide +kernel)⟩
theorem lw_p46 : lw_okq (⟨"StringVotes$Book", "enter", "(IIII)V"⟩, 3) := ⟨⟨by decide +kernel, by decide +kernel⟩, List.mem_of_getElem? (i := 76) (by decide +kernel), List.mem_of_getElem? (i := 548) (by decide +kernel), List.mem_of_getElem? (i := 549) (by decide +kernel)⟩
def lw_privs_3 : List (MethodName × Nat) := [(⟨"StringVotes$Strings", "areTied", "(II)Z"⟩, 6), (⟨"StringVotes$Parliament", "reasonAgainstPull", "(II)I"⟩, 13), (⟨"StringVotes$Parliament", "addPuppet", "(II)I"⟩, 13), (⟨"StringVotes", "settle", "(I)I"⟩, 11), (⟨"StringVotes", "remember", "()V"⟩, 11), (⟨"StringVotes", "pastState", "(I)LStringVotes$Parliament;"⟩, 11), (⟨"StringVotes$Parliament", "addString", "(IIII)I"⟩, 13), (⟨"StringVotes$Strings", "append", "(IIII)I"⟩, 6), (⟨"StringVotes$Parliament", "cutStringsOf", "(I)I"⟩, 13), (⟨"StringVotes$Strings", "removeAllOf", "(I)I"⟩, 6), (⟨"StringVotes$Parliament", "pullTo", "(II)I"⟩, 13), (⟨"StringVotes$Parliament", "letGo", "(I)I"⟩, 13), (⟨"StringVotes$Parliament", "bindPulls", "(I)I"⟩, 13), (⟨"StringVotes$Parliament", "holdSession", "()I"⟩, 13), (⟨"StringVotes$Book", "enter", "(IIII)V"⟩, 3)]
theorem lw_r3 : ∀ q ∈ lw_privs_3, lw_okq q := List.forall_mem_cons.mpr ⟨lw_p32, List.forall_mem_cons.mpr ⟨lw_p33, List.forall_mem_cons.mpr ⟨lw_p34, List.forall_mem_cons.mpr ⟨lw_p35, List.forall_mem_cons.mpr ⟨lw_p36, List.forall_mem_cons.mpr ⟨lw_p37, List.forall_mem_cons.mpr ⟨lw_p38, List.forall_mem_cons.mpr ⟨lw_p39, List.forall_mem_cons.mpr ⟨lw_p40, List.forall_mem_cons.mpr ⟨lw_p41, List.forall_mem_cons.mpr ⟨lw_p42, List.forall_mem_cons.mpr ⟨lw_p43, List.forall_mem_cons.mpr ⟨lw_p44, List.forall_mem_cons.mpr ⟨lw_p45, List.forall_mem_cons.mpr ⟨lw_p46, fun _ h => absurd h List.not_mem_nil⟩⟩⟩⟩⟩⟩⟩⟩⟩⟩⟩⟩⟩⟩⟩
def lw_privs : List (MethodName × Nat) := lw_privs_1 ++ (lw_privs_2 ++ (lw_privs_3))
def lw_tbl : List Cond := k2_sels lw_privs ++ tables_1
theorem lw_privs_ok : ∀ q ∈ lw_privs, lw_okq q := by
  show ∀ q ∈ lw_privs_1 ++ (lw_privs_2 ++ (lw_privs_3)), lw_okq q
  exact List.forall_mem_append.mpr ⟨lw_r1, List.forall_mem_append.mpr ⟨lw_r2, lw_r3⟩⟩
-- ===== end of PART A; then your names; then what follows =====
def RX0 : String := "StringVotes$Book"
def TX0 : u_T := fun k => match k with
  | 0 => ("StringVotes$Book", "entries", "LStringVotes$Row;", true)
  | 1 => ("StringVotes$Book", "sessions", "I", false)
  | _ => ("StringVotes$Book", "passed", "I", false)
def tyX0 : Nat → FieldType := fun k => match k with
  | 0 => .object "StringVotes$Row"
  | 1 => .int
  | _ => .int
abbrev wsX00 : List Cond := u_ws RX0 TX0 3
theorem nmX0 : ∀ a, a < 3 → ∀ b, b < 3 → a ≠ b → (TX0 a).2.1 ≠ (TX0 b).2.1 := by decide +kernel
theorem tyX0_ok : ∀ k, k < 3 → parseFieldDescriptor (TX0 k).2.2.1 = some (tyX0 k) := by decide +kernel
abbrev cX0_init : ByteArray := prog_2_method_1_code
def yX0_init : MethodName := ⟨RX0, "<init>", "()V"⟩
abbrev cX0_copyFrom : ByteArray := prog_2_method_2_code
def yX0_copyFrom : MethodName := ⟨RX0, "copyFrom", "(LStringVotes$Book;)V"⟩
abbrev cX0_kept : ByteArray := prog_2_method_3_code
def yX0_kept : MethodName := ⟨RX0, "kept", "()I"⟩
abbrev cX0_entry : ByteArray := prog_2_method_4_code
def yX0_entry : MethodName := ⟨RX0, "entry", "(II)I"⟩
abbrev cX0_enter : ByteArray := prog_2_method_5_code
def yX0_enter : MethodName := ⟨RX0, "enter", "(IIII)V"⟩
def RX1 : String := "StringVotes$Parliament"
def TX1 : u_T := fun k => match k with
  | 0 => ("StringVotes$Parliament", "seats", "LStringVotes$Row;", true)
  | 1 => ("StringVotes$Parliament", "leaning", "LStringVotes$Row;", true)
  | 2 => ("StringVotes$Parliament", "pulled", "LStringVotes$Row;", true)
  | 3 => ("StringVotes$Parliament", "lowest", "LStringVotes$Row;", true)
  | 4 => ("StringVotes$Parliament", "side", "LStringVotes$Row;", true)
  | 5 => ("StringVotes$Parliament", "vote", "LStringVotes$Row;", true)
  | 6 => ("StringVotes$Parliament", "strings", "LStringVotes$Strings;", true)
  | 7 => ("StringVotes$Parliament", "book", "LStringVotes$Book;", true)
  | 8 => ("StringVotes$Parliament", "puppets", "I", false)
  | 9 => ("StringVotes$Parliament", "speaker", "I", false)
  | 10 => ("StringVotes$Parliament", "pullsBound", "I", false)
  | 11 => ("StringVotes$Parliament", "allSeats", "I", false)
  | _ => ("StringVotes$Parliament", "yesSeats", "I", false)
def tyX1 : Nat → FieldType := fun k => match k with
  | 0 => .object "StringVotes$Row"
  | 1 => .object "StringVotes$Row"
  | 2 => .object "StringVotes$Row"
  | 3 => .object "StringVotes$Row"
  | 4 => .object "StringVotes$Row"
  | 5 => .object "StringVotes$Row"
  | 6 => .object "StringVotes$Strings"
  | 7 => .object "StringVotes$Book"
  | 8 => .int
  | 9 => .int
  | 10 => .int
  | 11 => .int
  | _ => .int
abbrev wsX10 : List Cond := u_ws RX1 TX1 13
theorem nmX1 : ∀ a, a < 13 → ∀ b, b < 13 → a ≠ b → (TX1 a).2.1 ≠ (TX1 b).2.1 := by decide +kernel
theorem tyX1_ok : ∀ k, k < 13 → parseFieldDescriptor (TX1 k).2.2.1 = some (tyX1 k) := by decide +kernel
abbrev cX1_init : ByteArray := prog_3_method_1_code
def yX1_init : MethodName := ⟨RX1, "<init>", "()V"⟩
abbrev cX1_copyFrom : ByteArray := prog_3_method_2_code
def yX1_copyFrom : MethodName := ⟨RX1, "copyFrom", "(LStringVotes$Parliament;)V"⟩
abbrev cX1_addPuppet : ByteArray := prog_3_method_3_code
def yX1_addPuppet : MethodName := ⟨RX1, "addPuppet", "(II)I"⟩
abbrev cX1_addString : ByteArray := prog_3_method_4_code
def yX1_addString : MethodName := ⟨RX1, "addString", "(IIII)I"⟩
abbrev cX1_cutString : ByteArray := prog_3_method_5_code
def yX1_cutString : MethodName := ⟨RX1, "cutString", "(I)I"⟩
abbrev cX1_cutStringsOf : ByteArray := prog_3_method_6_code
def yX1_cutStringsOf : MethodName := ⟨RX1, "cutStringsOf", "(I)I"⟩
abbrev cX1_pullTo : ByteArray := prog_3_method_7_code
def yX1_pullTo : MethodName := ⟨RX1, "pullTo", "(II)I"⟩
abbrev cX1_letGo : ByteArray := prog_3_method_8_code
def yX1_letGo : MethodName := ⟨RX1, "letGo", "(I)I"⟩
abbrev cX1_holdSession : ByteArray := prog_3_method_9_code
def yX1_holdSession : MethodName := ⟨RX1, "holdSession", "()I"⟩
abbrev cX1_bindPulls : ByteArray := prog_3_method_10_code
def yX1_bindPulls : MethodName := ⟨RX1, "bindPulls", "(I)I"⟩
abbrev cX1_tellGroups : ByteArray := prog_3_method_11_code
def yX1_tellGroups : MethodName := ⟨RX1, "tellGroups", "()V"⟩
abbrev cX1_joinBy : ByteArray := prog_3_method_12_code
def yX1_joinBy : MethodName := ⟨RX1, "joinBy", "(I)V"⟩
abbrev cX1_tellVotes : ByteArray := prog_3_method_13_code
def yX1_tellVotes : MethodName := ⟨RX1, "tellVotes", "()V"⟩
abbrev cX1_leadingVote : ByteArray := prog_3_method_14_code
def yX1_leadingVote : MethodName := ⟨RX1, "leadingVote", "(I)I"⟩
abbrev cX1_pulledVote : ByteArray := prog_3_method_15_code
def yX1_pulledVote : MethodName := ⟨RX1, "pulledVote", "(I)I"⟩
abbrev cX1_hasPuppet : ByteArray := prog_3_method_16_code
def yX1_hasPuppet : MethodName := ⟨RX1, "hasPuppet", "(I)Z"⟩
abbrev cX1_arePair : ByteArray := prog_3_method_17_code
def yX1_arePair : MethodName := ⟨RX1, "arePair", "(II)Z"⟩
abbrev cX1_isPulled : ByteArray := prog_3_method_18_code
def yX1_isPulled : MethodName := ⟨RX1, "isPulled", "(I)Z"⟩
abbrev cX1_hangTogether : ByteArray := prog_3_method_19_code
def yX1_hangTogether : MethodName := ⟨RX1, "hangTogether", "(II)Z"⟩
abbrev cX1_reasonAgainstString : ByteArray := prog_3_method_20_code
def yX1_reasonAgainstString : MethodName := ⟨RX1, "reasonAgainstString", "(III)I"⟩
abbrev cX1_reasonAgainstPull : ByteArray := prog_3_method_21_code
def yX1_reasonAgainstPull : MethodName := ⟨RX1, "reasonAgainstPull", "(II)I"⟩
abbrev cX1_wouldPass : ByteArray := prog_3_method_22_code
def yX1_wouldPass : MethodName := ⟨RX1, "wouldPass", "()I"⟩
abbrev cX1_seatsIn : ByteArray := prog_3_method_23_code
def yX1_seatsIn : MethodName := ⟨RX1, "seatsIn", "(I)I"⟩
abbrev cX1_pulledPuppets : ByteArray := prog_3_method_25_code
def yX1_pulledPuppets : MethodName := ⟨RX1, "pulledPuppets", "()I"⟩
abbrev cX1_membersOf : ByteArray := prog_3_method_26_code
def yX1_membersOf : MethodName := ⟨RX1, "membersOf", "(I)I"⟩
abbrev cX1_groupsByJoining : ByteArray := prog_3_method_27_code
def yX1_groupsByJoining : MethodName := ⟨RX1, "groupsByJoining", "()I"⟩
abbrev cX1_groupsByWalking : ByteArray := prog_3_method_28_code
def yX1_groupsByWalking : MethodName := ⟨RX1, "groupsByWalking", "()I"⟩
abbrev cX1_walkFrom : ByteArray := prog_3_method_29_code
def yX1_walkFrom : MethodName := ⟨RX1, "walkFrom", "(I)I"⟩
def RX2 : String := "StringVotes$Row"
def TX2 : u_T := fun k => match k with
  | _ => ("StringVotes$Row", "cells", "[I", true)
def tyX2 : Nat → FieldType := fun k => match k with
  | _ => .array .int
abbrev wsX20 : List Cond := u_ws RX2 TX2 1
theorem nmX2 : ∀ a, a < 1 → ∀ b, b < 1 → a ≠ b → (TX2 a).2.1 ≠ (TX2 b).2.1 := by decide +kernel
theorem tyX2_ok : ∀ k, k < 1 → parseFieldDescriptor (TX2 k).2.2.1 = some (tyX2 k) := by decide +kernel
abbrev cX2_init : ByteArray := prog_4_method_1_code
def yX2_init : MethodName := ⟨RX2, "<init>", "(I)V"⟩
abbrev cX2_get : ByteArray := prog_4_method_2_code
def yX2_get : MethodName := ⟨RX2, "get", "(I)I"⟩
abbrev cX2_put : ByteArray := prog_4_method_3_code
def yX2_put : MethodName := ⟨RX2, "put", "(II)V"⟩
abbrev cX2_copyFrom : ByteArray := prog_4_method_4_code
def yX2_copyFrom : MethodName := ⟨RX2, "copyFrom", "(LStringVotes$Row;)V"⟩
abbrev cX2_removeAt : ByteArray := prog_4_method_5_code
def yX2_removeAt : MethodName := ⟨RX2, "removeAt", "(I)V"⟩
def RX3 : String := "StringVotes$Strings"
def TX3 : u_T := fun k => match k with
  | 0 => ("StringVotes$Strings", "lower", "LStringVotes$Row;", true)
  | 1 => ("StringVotes$Strings", "upper", "LStringVotes$Row;", true)
  | 2 => ("StringVotes$Strings", "unlike", "LStringVotes$Row;", true)
  | 3 => ("StringVotes$Strings", "deal", "LStringVotes$Row;", true)
  | 4 => ("StringVotes$Strings", "size", "I", false)
  | _ => ("StringVotes$Strings", "cuts", "I", false)
def tyX3 : Nat → FieldType := fun k => match k with
  | 0 => .object "StringVotes$Row"
  | 1 => .object "StringVotes$Row"
  | 2 => .object "StringVotes$Row"
  | 3 => .object "StringVotes$Row"
  | 4 => .int
  | _ => .int
abbrev wsX30 : List Cond := u_ws RX3 TX3 6
theorem nmX3 : ∀ a, a < 6 → ∀ b, b < 6 → a ≠ b → (TX3 a).2.1 ≠ (TX3 b).2.1 := by decide +kernel
theorem tyX3_ok : ∀ k, k < 6 → parseFieldDescriptor (TX3 k).2.2.1 = some (tyX3 k) := by decide +kernel
abbrev cX3_init : ByteArray := prog_5_method_1_code
def yX3_init : MethodName := ⟨RX3, "<init>", "()V"⟩
abbrev cX3_copyFrom : ByteArray := prog_5_method_2_code
def yX3_copyFrom : MethodName := ⟨RX3, "copyFrom", "(LStringVotes$Strings;)V"⟩
abbrev cX3_has : ByteArray := prog_5_method_3_code
def yX3_has : MethodName := ⟨RX3, "has", "(I)Z"⟩
abbrev cX3_append : ByteArray := prog_5_method_4_code
def yX3_append : MethodName := ⟨RX3, "append", "(IIII)I"⟩
abbrev cX3_removeAt : ByteArray := prog_5_method_5_code
def yX3_removeAt : MethodName := ⟨RX3, "removeAt", "(I)V"⟩
abbrev cX3_removeAllOf : ByteArray := prog_5_method_6_code
def yX3_removeAllOf : MethodName := ⟨RX3, "removeAllOf", "(I)I"⟩
abbrev cX3_areTied : ByteArray := prog_5_method_7_code
def yX3_areTied : MethodName := ⟨RX3, "areTied", "(II)Z"⟩
abbrev cX3_howManyAt : ByteArray := prog_5_method_8_code
def yX3_howManyAt : MethodName := ⟨RX3, "howManyAt", "(I)I"⟩
abbrev cX3_oneStringFurther : ByteArray := prog_5_method_9_code
def yX3_oneStringFurther : MethodName := ⟨RX3, "oneStringFurther", "(I)I"⟩
def RX4 : String := "StringVotes$Text"
def TX4 : u_T := fun k => match k with
  | 0 => ("StringVotes$Text", "characters", "LStringVotes$Row;", true)
  | 1 => ("StringVotes$Text", "length", "I", false)
  | 2 => ("StringVotes$Text", "letter", "I", false)
  | 3 => ("StringVotes$Text", "numbers", "LStringVotes$Row;", true)
  | _ => ("StringVotes$Text", "place", "I", false)
def tyX4 : Nat → FieldType := fun k => match k with
  | 0 => .object "StringVotes$Row"
  | 1 => .int
  | 2 => .int
  | 3 => .object "StringVotes$Row"
  | _ => .int
abbrev wsX40 : List Cond := u_ws RX4 TX4 5
theorem nmX4 : ∀ a, a < 5 → ∀ b, b < 5 → a ≠ b → (TX4 a).2.1 ≠ (TX4 b).2.1 := by decide +kernel
theorem tyX4_ok : ∀ k, k < 5 → parseFieldDescriptor (TX4 k).2.2.1 = some (tyX4 k) := by decide +kernel
abbrev cX4_init : ByteArray := prog_6_method_1_code
def yX4_init : MethodName := ⟨RX4, "<init>", "()V"⟩
def RX5 : String := "StringVotes$Turns"
def TX5 : u_T := fun k => match k with
  | 0 => ("StringVotes$Turns", "gains", "LStringVotes$Row;", true)
  | 1 => ("StringVotes$Turns", "groups", "I", false)
  | _ => ("StringVotes$Turns", "ahead", "I", false)
def tyX5 : Nat → FieldType := fun k => match k with
  | 0 => .object "StringVotes$Row"
  | 1 => .int
  | _ => .int
abbrev wsX50 : List Cond := u_ws RX5 TX5 3
theorem nmX5 : ∀ a, a < 3 → ∀ b, b < 3 → a ≠ b → (TX5 a).2.1 ≠ (TX5 b).2.1 := by decide +kernel
theorem tyX5_ok : ∀ k, k < 3 → parseFieldDescriptor (TX5 k).2.2.1 = some (tyX5 k) := by decide +kernel
abbrev cX5_init : ByteArray := prog_7_method_1_code
def yX5_init : MethodName := ⟨RX5, "<init>", "()V"⟩
def RX6 : String := "StringVotes"
def TX6 : u_T := fun k => match k with
  | 0 => ("StringVotes", "now", "LStringVotes$Parliament;", true)
  | 1 => ("StringVotes", "trial", "LStringVotes$Parliament;", true)
  | 2 => ("StringVotes", "past", "[LStringVotes$Parliament;", true)
  | 3 => ("StringVotes", "oldestSlot", "I", false)
  | 4 => ("StringVotes", "states", "I", false)
  | 5 => ("StringVotes", "turns", "LStringVotes$Turns;", true)
  | 6 => ("StringVotes", "text", "LStringVotes$Text;", true)
  | 7 => ("StringVotes", "ordersDone", "I", false)
  | 8 => ("StringVotes", "faultPosition", "I", false)
  | 9 => ("StringVotes", "faultReason", "I", false)
  | _ => ("StringVotes", "faultCause", "I", false)
def tyX6 : Nat → FieldType := fun k => match k with
  | 0 => .object "StringVotes$Parliament"
  | 1 => .object "StringVotes$Parliament"
  | 2 => .array (.object "StringVotes$Parliament")
  | 3 => .int
  | 4 => .int
  | 5 => .object "StringVotes$Turns"
  | 6 => .object "StringVotes$Text"
  | 7 => .int
  | 8 => .int
  | 9 => .int
  | _ => .int
abbrev wsX60 : List Cond := u_ws RX6 TX6 11
theorem nmX6 : ∀ a, a < 11 → ∀ b, b < 11 → a ≠ b → (TX6 a).2.1 ≠ (TX6 b).2.1 := by decide +kernel
theorem tyX6_ok : ∀ k, k < 11 → parseFieldDescriptor (TX6 k).2.2.1 = some (tyX6 k) := by decide +kernel
abbrev cX6_init : ByteArray := prog_1_method_1_code
def yX6_init : MethodName := ⟨RX6, "<init>", "()V"⟩
abbrev cX6_puppet : ByteArray := prog_1_method_2_code
def yX6_puppet : MethodName := ⟨RX6, "puppet", "(II)I"⟩
abbrev cX6_tie : ByteArray := prog_1_method_3_code
def yX6_tie : MethodName := ⟨RX6, "tie", "(IIZI)I"⟩
abbrev cX6_cut : ByteArray := prog_1_method_4_code
def yX6_cut : MethodName := ⟨RX6, "cut", "(I)I"⟩
abbrev cX6_cutDeal : ByteArray := prog_1_method_5_code
def yX6_cutDeal : MethodName := ⟨RX6, "cutDeal", "(I)I"⟩
abbrev cX6_pull : ByteArray := prog_1_method_6_code
def yX6_pull : MethodName := ⟨RX6, "pull", "(II)I"⟩
abbrev cX6_release : ByteArray := prog_1_method_7_code
def yX6_release : MethodName := ⟨RX6, "release", "(I)I"⟩
abbrev cX6_session : ByteArray := prog_1_method_8_code
def yX6_session : MethodName := ⟨RX6, "session", "()I"⟩
abbrev cX6_set : ByteArray := prog_1_method_9_code
def yX6_set : MethodName := ⟨RX6, "set", "(II)I"⟩
abbrev cX6_puppetOf : ByteArray := prog_1_method_10_code
def yX6_puppetOf : MethodName := ⟨RX6, "puppetOf", "(II)I"⟩
abbrev cX6_stringOf : ByteArray := prog_1_method_11_code
def yX6_stringOf : MethodName := ⟨RX6, "stringOf", "(II)I"⟩
abbrev cX6_hangTogetherWithout : ByteArray := prog_1_method_12_code
def yX6_hangTogetherWithout : MethodName := ⟨RX6, "hangTogetherWithout", "(I)Z"⟩
abbrev cX6_book : ByteArray := prog_1_method_14_code
def yX6_book : MethodName := ⟨RX6, "book", "(II)I"⟩
abbrev cX6_whyTie : ByteArray := prog_1_method_15_code
def yX6_whyTie : MethodName := ⟨RX6, "whyTie", "(IIZ)I"⟩
abbrev cX6_whyPull : ByteArray := prog_1_method_16_code
def yX6_whyPull : MethodName := ⟨RX6, "whyPull", "(II)I"⟩
abbrev cX6_ifCut : ByteArray := prog_1_method_20_code
def yX6_ifCut : MethodName := ⟨RX6, "ifCut", "(II)I"⟩
abbrev cX6_count : ByteArray := prog_1_method_23_code
def yX6_count : MethodName := ⟨RX6, "count", "(I)I"⟩
abbrev cX6_settle : ByteArray := prog_1_method_32_code
def yX6_settle : MethodName := ⟨RX6, "settle", "(I)I"⟩
abbrev cX6_remember : ByteArray := prog_1_method_33_code
def yX6_remember : MethodName := ⟨RX6, "remember", "()V"⟩
abbrev cX6_pastState : ByteArray := prog_1_method_34_code
def yX6_pastState : MethodName := ⟨RX6, "pastState", "(I)LStringVotes$Parliament;"⟩
abbrev cX6_isError : ByteArray := prog_1_method_35_code
def yX6_isError : MethodName := ⟨RX6, "isError", "(I)Z"⟩
abbrev cX6_isIn : ByteArray := prog_1_method_36_code
def yX6_isIn : MethodName := ⟨RX6, "isIn", "(III)Z"⟩
abbrev cX6_isMember : ByteArray := prog_1_method_37_code
def yX6_isMember : MethodName := ⟨RX6, "isMember", "(II)Z"⟩
def RX7 : String := "StringVotesModel"
def TX7 : u_T := fun k => match k with
  | _ => ("", "", "", false)
def tyX7 : Nat → FieldType := fun k => match k with
  | _ => .int
abbrev wsX70 : List Cond := u_ws RX7 TX7 0
theorem nmX7 : ∀ a, a < 0 → ∀ b, b < 0 → a ≠ b → (TX7 a).2.1 ≠ (TX7 b).2.1 := by decide +kernel
theorem tyX7_ok : ∀ k, k < 0 → parseFieldDescriptor (TX7 k).2.2.1 = some (tyX7 k) := by decide +kernel
def RJ9 : String := "java/lang/Math"
def TJ9 : u_T := fun k => match k with
  | _ => ("", "", "", false)
def tyJ9 : Nat → FieldType := fun k => match k with
  | _ => .int
abbrev wsJ90 : List Cond := u_ws RJ9 TJ9 0
theorem nmJ9 : ∀ a, a < 0 → ∀ b, b < 0 → a ≠ b → (TJ9 a).2.1 ≠ (TJ9 b).2.1 := by decide +kernel
theorem tyJ9_ok : ∀ k, k < 0 → parseFieldDescriptor (TJ9 k).2.2.1 = some (tyJ9 k) := by decide +kernel
abbrev cJ9_max_7cf53 : ByteArray := prog_10_method_65_code
def yJ9_max_7cf53 : MethodName := ⟨RJ9, "max", "(II)I"⟩
abbrev cJ9_min_7cf53 : ByteArray := prog_10_method_69_code
def yJ9_min_7cf53 : MethodName := ⟨RJ9, "min", "(II)I"⟩
def RJ10 : String := "java/lang/System"
def TJ10 : u_T := fun k => match k with
  | _ => ("", "", "", false)
def tyJ10 : Nat → FieldType := fun k => match k with
  | _ => .int
abbrev wsJ100 : List Cond := u_ws RJ10 TJ10 0
theorem nmJ10 : ∀ a, a < 0 → ∀ b, b < 0 → a ≠ b → (TJ10 a).2.1 ≠ (TJ10 b).2.1 := by decide +kernel
theorem tyJ10_ok : ∀ k, k < 0 → parseFieldDescriptor (TJ10 k).2.2.1 = some (tyJ10 k) := by decide +kernel
def RL : String := "StringVotesLaw"
abbrev cL_cell : ByteArray := method_2_code
def yL_cell : MethodName := ⟨RL, "cell", "([II)I"⟩
abbrev cL_groups : ByteArray := method_4_code
def yL_groups : MethodName := ⟨RL, "groups", "([I[I[I[II)I"⟩
abbrev cL_yes : ByteArray := method_5_code
def yL_yes : MethodName := ⟨RL, "yes", "([I[I[I[II)I"⟩
abbrev cL_seats : ByteArray := method_6_code
def yL_seats : MethodName := ⟨RL, "seats", "([I[I)I"⟩
abbrev cL_held : ByteArray := method_7_code
def yL_held : MethodName := ⟨RL, "held", "([I[I[III)I"⟩
abbrev cL_whyTie : ByteArray := method_8_code
def yL_whyTie : MethodName := ⟨RL, "whyTie", "([I[I[I[IIII)I"⟩
abbrev cL_whyPull : ByteArray := method_9_code
def yL_whyPull : MethodName := ⟨RL, "whyPull", "([I[I[I[III)I"⟩
abbrev cL_arePuppets : ByteArray := method_10_code
def yL_arePuppets : MethodName := ⟨RL, "arePuppets", "(LStringVotes;[I[I[I[I)Z"⟩
abbrev cL_areStrings : ByteArray := method_11_code
def yL_areStrings : MethodName := ⟨RL, "areStrings", "(LStringVotes;[I[I[I[I[I)Z"⟩
abbrev cL_areWhys : ByteArray := method_12_code
def yL_areWhys : MethodName := ⟨RL, "areWhys", "(LStringVotes;[I[I[I[II)Z"⟩
abbrev cL_drop : ByteArray := method_13_code
def yL_drop : MethodName := ⟨RL, "drop", "([I[II)V"⟩
abbrev cL_isSession : ByteArray := method_14_code
def yL_isSession : MethodName := ⟨RL, "isSession", "(LStringVotes;[I[I[I[I[I)Z"⟩
abbrev cL_isActed : ByteArray := method_15_code
def yL_isActed : MethodName := ⟨RL, "isActed", "(LStringVotes;[I[I[I[I[III)Z"⟩
abbrev cL_law : ByteArray := code
def yL_law : MethodName := ⟨RL, "law", "([I)Z"⟩
abbrev vwCl : List vw_C := [(RX0, TX0, 3), (RX1, TX1, 13), (RX2, TX2, 1), (RX3, TX3, 6), (RX4, TX4, 5), (RX5, TX5, 3), (RX6, TX6, 11)]
/-- the words that hold at every method: the law's, but for those of nest mates -/
def ALL : List Cond := lw_tbl.filter goodWord
def nestW : Cond → Bool
  | .fieldLinkNest _ _ _ _ _ _ => true
  | .methodLinkNest _ _ _ _ => true
  | _ => false
def NST : List Cond := lw_tbl.filter nestW
theorem q_0 : Cond.selects RX1 yX1_hasPuppet yX1_hasPuppet ∈ ALL := List.mem_filter.mpr ⟨List.mem_of_getElem? (i := 0) (by decide +kernel), rfl⟩
theorem q_1 : Cond.selects RX2 yX2_get yX2_get ∈ ALL := List.mem_filter.mpr ⟨List.mem_of_getElem? (i := 1) (by decide +kernel), rfl⟩
theorem q_2 : Cond.selects RX1 yX1_isPulled yX1_isPulled ∈ ALL := List.mem_filter.mpr ⟨List.mem_of_getElem? (i := 2) (by decide +kernel), rfl⟩
theorem q_3 : Cond.selects RX3 yX3_howManyAt yX3_howManyAt ∈ ALL := List.mem_filter.mpr ⟨List.mem_of_getElem? (i := 3) (by decide +kernel), rfl⟩
theorem q_4 : Cond.selects RX1 yX1_membersOf yX1_membersOf ∈ ALL := List.mem_filter.mpr ⟨List.mem_of_getElem? (i := 4) (by decide +kernel), rfl⟩
theorem q_5 : Cond.selects RX1 yX1_seatsIn yX1_seatsIn ∈ ALL := List.mem_filter.mpr ⟨List.mem_of_getElem? (i := 5) (by decide +kernel), rfl⟩
theorem q_6 : Cond.selects RX1 yX1_groupsByJoining yX1_groupsByJoining ∈ ALL := List.mem_filter.mpr ⟨List.mem_of_getElem? (i := 6) (by decide +kernel), rfl⟩
theorem q_7 : Cond.selects RX1 yX1_groupsByWalking yX1_groupsByWalking ∈ ALL := List.mem_filter.mpr ⟨List.mem_of_getElem? (i := 7) (by decide +kernel), rfl⟩
theorem q_8 : Cond.selects RX1 yX1_walkFrom yX1_walkFrom ∈ ALL := List.mem_filter.mpr ⟨List.mem_of_getElem? (i := 8) (by decide +kernel), rfl⟩
theorem q_9 : Cond.selects RX3 yX3_oneStringFurther yX3_oneStringFurther ∈ ALL := List.mem_filter.mpr ⟨List.mem_of_getElem? (i := 9) (by decide +kernel), rfl⟩
theorem q_10 : Cond.selects RX1 yX1_wouldPass yX1_wouldPass ∈ ALL := List.mem_filter.mpr ⟨List.mem_of_getElem? (i := 10) (by decide +kernel), rfl⟩
theorem q_11 : Cond.selects RX1 yX1_pulledPuppets yX1_pulledPuppets ∈ ALL := List.mem_filter.mpr ⟨List.mem_of_getElem? (i := 11) (by decide +kernel), rfl⟩
theorem q_12 : Cond.selects RX0 yX0_kept yX0_kept ∈ ALL := List.mem_filter.mpr ⟨List.mem_of_getElem? (i := 12) (by decide +kernel), rfl⟩
theorem q_13 : Cond.selects RX3 yX3_has yX3_has ∈ ALL := List.mem_filter.mpr ⟨List.mem_of_getElem? (i := 13) (by decide +kernel), rfl⟩
theorem q_14 : Cond.selects RX6 yX6_hangTogetherWithout yX6_hangTogetherWithout ∈ ALL := List.mem_filter.mpr ⟨List.mem_of_getElem? (i := 14) (by decide +kernel), rfl⟩
theorem q_15 : Cond.selects RX1 yX1_copyFrom yX1_copyFrom ∈ ALL := List.mem_filter.mpr ⟨List.mem_of_getElem? (i := 15) (by decide +kernel), rfl⟩
theorem q_16 : Cond.selects RX2 yX2_copyFrom yX2_copyFrom ∈ ALL := List.mem_filter.mpr ⟨List.mem_of_getElem? (i := 16) (by decide +kernel), rfl⟩
theorem q_17 : Cond.selects RX3 yX3_copyFrom yX3_copyFrom ∈ ALL := List.mem_filter.mpr ⟨List.mem_of_getElem? (i := 17) (by decide +kernel), rfl⟩
theorem q_18 : Cond.selects RX0 yX0_copyFrom yX0_copyFrom ∈ ALL := List.mem_filter.mpr ⟨List.mem_of_getElem? (i := 18) (by decide +kernel), rfl⟩
theorem q_19 : Cond.selects RX1 yX1_cutString yX1_cutString ∈ ALL := List.mem_filter.mpr ⟨List.mem_of_getElem? (i := 19) (by decide +kernel), rfl⟩
theorem q_20 : Cond.selects RX3 yX3_removeAt yX3_removeAt ∈ ALL := List.mem_filter.mpr ⟨List.mem_of_getElem? (i := 20) (by decide +kernel), rfl⟩
theorem q_21 : Cond.selects RX2 yX2_removeAt yX2_removeAt ∈ ALL := List.mem_filter.mpr ⟨List.mem_of_getElem? (i := 21) (by decide +kernel), rfl⟩
theorem q_22 : Cond.selects RX1 yX1_tellGroups yX1_tellGroups ∈ ALL := List.mem_filter.mpr ⟨List.mem_of_getElem? (i := 22) (by decide +kernel), rfl⟩
theorem q_23 : Cond.selects RX2 yX2_put yX2_put ∈ ALL := List.mem_filter.mpr ⟨List.mem_of_getElem? (i := 23) (by decide +kernel), rfl⟩
theorem q_24 : Cond.selects RX1 yX1_joinBy yX1_joinBy ∈ ALL := List.mem_filter.mpr ⟨List.mem_of_getElem? (i := 24) (by decide +kernel), rfl⟩
theorem q_25 : Cond.selects RX1 yX1_tellVotes yX1_tellVotes ∈ ALL := List.mem_filter.mpr ⟨List.mem_of_getElem? (i := 25) (by decide +kernel), rfl⟩
theorem q_26 : Cond.selects RX1 yX1_pulledVote yX1_pulledVote ∈ ALL := List.mem_filter.mpr ⟨List.mem_of_getElem? (i := 26) (by decide +kernel), rfl⟩
theorem q_27 : Cond.selects RX1 yX1_leadingVote yX1_leadingVote ∈ ALL := List.mem_filter.mpr ⟨List.mem_of_getElem? (i := 27) (by decide +kernel), rfl⟩
theorem q_28 : Cond.selects RX1 yX1_hangTogether yX1_hangTogether ∈ ALL := List.mem_filter.mpr ⟨List.mem_of_getElem? (i := 28) (by decide +kernel), rfl⟩
theorem q_29 : Cond.selects RX0 yX0_entry yX0_entry ∈ ALL := List.mem_filter.mpr ⟨List.mem_of_getElem? (i := 29) (by decide +kernel), rfl⟩
theorem q_30 : Cond.selects RX1 yX1_arePair yX1_arePair ∈ ALL := List.mem_filter.mpr ⟨List.mem_of_getElem? (i := 30) (by decide +kernel), rfl⟩
theorem q_31 : Cond.selects RX1 yX1_reasonAgainstString yX1_reasonAgainstString ∈ ALL := List.mem_filter.mpr ⟨List.mem_of_getElem? (i := 31) (by decide +kernel), rfl⟩
theorem q_32 : Cond.selects RX3 yX3_areTied yX3_areTied ∈ ALL := List.mem_filter.mpr ⟨List.mem_of_getElem? (i := 32) (by decide +kernel), rfl⟩
theorem q_33 : Cond.selects RX1 yX1_reasonAgainstPull yX1_reasonAgainstPull ∈ ALL := List.mem_filter.mpr ⟨List.mem_of_getElem? (i := 33) (by decide +kernel), rfl⟩
theorem q_34 : Cond.selects RX1 yX1_addPuppet yX1_addPuppet ∈ ALL := List.mem_filter.mpr ⟨List.mem_of_getElem? (i := 34) (by decide +kernel), rfl⟩
theorem q_35 : Cond.selects RX6 yX6_settle yX6_settle ∈ ALL := List.mem_filter.mpr ⟨List.mem_of_getElem? (i := 35) (by decide +kernel), rfl⟩
theorem q_36 : Cond.selects RX6 yX6_remember yX6_remember ∈ ALL := List.mem_filter.mpr ⟨List.mem_of_getElem? (i := 36) (by decide +kernel), rfl⟩
theorem q_37 : Cond.selects RX6 yX6_pastState yX6_pastState ∈ ALL := List.mem_filter.mpr ⟨List.mem_of_getElem? (i := 37) (by decide +kernel), rfl⟩
theorem q_38 : Cond.selects RX1 yX1_addString yX1_addString ∈ ALL := List.mem_filter.mpr ⟨List.mem_of_getElem? (i := 38) (by decide +kernel), rfl⟩
theorem q_39 : Cond.selects RX3 yX3_append yX3_append ∈ ALL := List.mem_filter.mpr ⟨List.mem_of_getElem? (i := 39) (by decide +kernel), rfl⟩
theorem q_40 : Cond.selects RX1 yX1_cutStringsOf yX1_cutStringsOf ∈ ALL := List.mem_filter.mpr ⟨List.mem_of_getElem? (i := 40) (by decide +kernel), rfl⟩
theorem q_41 : Cond.selects RX3 yX3_removeAllOf yX3_removeAllOf ∈ ALL := List.mem_filter.mpr ⟨List.mem_of_getElem? (i := 41) (by decide +kernel), rfl⟩
theorem q_42 : Cond.selects RX1 yX1_pullTo yX1_pullTo ∈ ALL := List.mem_filter.mpr ⟨List.mem_of_getElem? (i := 42) (by decide +kernel), rfl⟩
theorem q_43 : Cond.selects RX1 yX1_letGo yX1_letGo ∈ ALL := List.mem_filter.mpr ⟨List.mem_of_getElem? (i := 43) (by decide +kernel), rfl⟩
theorem q_44 : Cond.selects RX1 yX1_bindPulls yX1_bindPulls ∈ ALL := List.mem_filter.mpr ⟨List.mem_of_getElem? (i := 44) (by decide +kernel), rfl⟩
theorem q_45 : Cond.selects RX1 yX1_holdSession yX1_holdSession ∈ ALL := List.mem_filter.mpr ⟨List.mem_of_getElem? (i := 45) (by decide +kernel), rfl⟩
theorem q_46 : Cond.selects RX0 yX0_enter yX0_enter ∈ ALL := List.mem_filter.mpr ⟨List.mem_of_getElem? (i := 46) (by decide +kernel), rfl⟩
theorem q_47 : Cond.initialized RL ∈ ALL := List.mem_filter.mpr ⟨List.mem_of_getElem? (i := 47) (by decide +kernel), rfl⟩
theorem q_48 : Cond.initialized RX6 ∈ ALL := List.mem_filter.mpr ⟨List.mem_of_getElem? (i := 48) (by decide +kernel), rfl⟩
theorem q_49 : Cond.initialized RX1 ∈ ALL := List.mem_filter.mpr ⟨List.mem_of_getElem? (i := 49) (by decide +kernel), rfl⟩
theorem q_50 : Cond.initialized RX2 ∈ ALL := List.mem_filter.mpr ⟨List.mem_of_getElem? (i := 50) (by decide +kernel), rfl⟩
theorem q_51 : Cond.initialized RJ9 ∈ ALL := List.mem_filter.mpr ⟨List.mem_of_getElem? (i := 51) (by decide +kernel), rfl⟩
theorem q_52 : Cond.initialized RX3 ∈ ALL := List.mem_filter.mpr ⟨List.mem_of_getElem? (i := 52) (by decide +kernel), rfl⟩
theorem q_53 : Cond.initialized RX0 ∈ ALL := List.mem_filter.mpr ⟨List.mem_of_getElem? (i := 53) (by decide +kernel), rfl⟩
theorem q_54 : Cond.initialized RX5 ∈ ALL := List.mem_filter.mpr ⟨List.mem_of_getElem? (i := 54) (by decide +kernel), rfl⟩
theorem q_55 : Cond.initialized RX4 ∈ ALL := List.mem_filter.mpr ⟨List.mem_of_getElem? (i := 55) (by decide +kernel), rfl⟩
theorem q_56 : Cond.initialized RJ10 ∈ ALL := List.mem_filter.mpr ⟨List.mem_of_getElem? (i := 56) (by decide +kernel), rfl⟩
theorem q_57 : Cond.classLink RL 27 RX6 ∈ ALL := List.mem_filter.mpr ⟨List.mem_of_getElem? (i := 57) (by decide +kernel), rfl⟩
theorem q_58 : Cond.instantiable RX6 11 ∈ ALL := List.mem_filter.mpr ⟨List.mem_of_getElem? (i := 58) (by decide +kernel), rfl⟩
theorem q_59 : Cond.methodLink RL 96 yX6_init ∈ ALL := List.mem_filter.mpr ⟨List.mem_of_getElem? (i := 59) (by decide +kernel), rfl⟩
theorem q_60 : Cond.instanceMethod yX6_init ∈ ALL := List.mem_filter.mpr ⟨List.mem_of_getElem? (i := 60) (by decide +kernel), rfl⟩
theorem q_61 : Cond.code yX6_init cX6_init 2 none ∈ ALL := List.mem_filter.mpr ⟨List.mem_of_getElem? (i := 61) (by decide +kernel), rfl⟩
theorem q_62 : Cond.methodLink RX6 1 objectInit ∈ ALL := List.mem_filter.mpr ⟨List.mem_of_getElem? (i := 62) (by decide +kernel), rfl⟩
theorem q_63 : Cond.instanceMethod objectInit ∈ ALL := List.mem_filter.mpr ⟨List.mem_of_getElem? (i := 63) (by decide +kernel), rfl⟩
theorem q_64 : Cond.code objectInit ⟨#[0xb1]⟩ 1 none ∈ ALL := List.mem_filter.mpr ⟨List.mem_of_getElem? (i := 64) (by decide +kernel), rfl⟩
theorem q_65 : Cond.classLink RX6 7 RX1 ∈ ALL := List.mem_filter.mpr ⟨List.mem_of_getElem? (i := 65) (by decide +kernel), rfl⟩
theorem q_66 : Cond.instantiable RX1 13 ∈ ALL := List.mem_filter.mpr ⟨List.mem_of_getElem? (i := 66) (by decide +kernel), rfl⟩
theorem q_67 : Cond.methodLinkNest RX6 9 yX1_init RX6 ∈ NST := List.mem_filter.mpr ⟨List.mem_of_getElem? (i := 67) (by decide +kernel), rfl⟩
theorem q_68 : Cond.instanceMethod yX1_init ∈ ALL := List.mem_filter.mpr ⟨List.mem_of_getElem? (i := 68) (by decide +kernel), rfl⟩
theorem q_69 : Cond.code yX1_init cX1_init 1 none ∈ ALL := List.mem_filter.mpr ⟨List.mem_of_getElem? (i := 69) (by decide +kernel), rfl⟩
theorem q_70 : Cond.methodLink RX1 3 objectInit ∈ ALL := List.mem_filter.mpr ⟨List.mem_of_getElem? (i := 70) (by decide +kernel), rfl⟩
theorem q_71 : Cond.classLink RX1 9 RX2 ∈ ALL := List.mem_filter.mpr ⟨List.mem_of_getElem? (i := 71) (by decide +kernel), rfl⟩
theorem q_72 : Cond.instantiable RX2 1 ∈ ALL := List.mem_filter.mpr ⟨List.mem_of_getElem? (i := 72) (by decide +kernel), rfl⟩
theorem q_73 : Cond.methodLinkNest RX1 11 yX2_init RX6 ∈ NST := List.mem_filter.mpr ⟨List.mem_of_getElem? (i := 73) (by decide +kernel), rfl⟩
theorem q_74 : Cond.instanceMethod yX2_init ∈ ALL := List.mem_filter.mpr ⟨List.mem_of_getElem? (i := 74) (by decide +kernel), rfl⟩
theorem q_75 : Cond.code yX2_init cX2_init 2 none ∈ ALL := List.mem_filter.mpr ⟨List.mem_of_getElem? (i := 75) (by decide +kernel), rfl⟩
theorem q_76 : Cond.methodLink RX2 1 objectInit ∈ ALL := List.mem_filter.mpr ⟨List.mem_of_getElem? (i := 76) (by decide +kernel), rfl⟩
theorem q_77 : Cond.methodLink RX2 7 yJ9_max_7cf53 ∈ ALL := List.mem_filter.mpr ⟨List.mem_of_getElem? (i := 77) (by decide +kernel), rfl⟩
theorem q_78 : Cond.static yJ9_max_7cf53 ∈ ALL := List.mem_filter.mpr ⟨List.mem_of_getElem? (i := 78) (by decide +kernel), rfl⟩
theorem q_79 : Cond.code yJ9_max_7cf53 cJ9_max_7cf53 2 (some .int) ∈ ALL := List.mem_filter.mpr ⟨List.mem_of_getElem? (i := 79) (by decide +kernel), rfl⟩
theorem q_80 : Cond.fieldLink RX2 13 "StringVotes$Row" "cells" "[I" ∈ ALL := List.mem_filter.mpr ⟨List.mem_of_getElem? (i := 80) (by decide +kernel), rfl⟩
theorem q_84 : Cond.arrayClass .int ∈ ALL := List.mem_filter.mpr ⟨List.mem_of_getElem? (i := 84) (by decide +kernel), rfl⟩
theorem q_85 : Cond.classLink RX1 35 RX3 ∈ ALL := List.mem_filter.mpr ⟨List.mem_of_getElem? (i := 85) (by decide +kernel), rfl⟩
theorem q_86 : Cond.instantiable RX3 6 ∈ ALL := List.mem_filter.mpr ⟨List.mem_of_getElem? (i := 86) (by decide +kernel), rfl⟩
theorem q_87 : Cond.methodLinkNest RX1 37 yX3_init RX6 ∈ NST := List.mem_filter.mpr ⟨List.mem_of_getElem? (i := 87) (by decide +kernel), rfl⟩
theorem q_88 : Cond.instanceMethod yX3_init ∈ ALL := List.mem_filter.mpr ⟨List.mem_of_getElem? (i := 88) (by decide +kernel), rfl⟩
theorem q_89 : Cond.code yX3_init cX3_init 1 none ∈ ALL := List.mem_filter.mpr ⟨List.mem_of_getElem? (i := 89) (by decide +kernel), rfl⟩
theorem q_90 : Cond.methodLink RX3 3 objectInit ∈ ALL := List.mem_filter.mpr ⟨List.mem_of_getElem? (i := 90) (by decide +kernel), rfl⟩
theorem q_91 : Cond.classLink RX3 9 RX2 ∈ ALL := List.mem_filter.mpr ⟨List.mem_of_getElem? (i := 91) (by decide +kernel), rfl⟩
theorem q_92 : Cond.methodLinkNest RX3 11 yX2_init RX6 ∈ NST := List.mem_filter.mpr ⟨List.mem_of_getElem? (i := 92) (by decide +kernel), rfl⟩
theorem q_93 : Cond.fieldLink RX3 14 "StringVotes$Strings" "lower" "LStringVotes$Row;" ∈ ALL := List.mem_filter.mpr ⟨List.mem_of_getElem? (i := 93) (by decide +kernel), rfl⟩
theorem q_94 : Cond.fieldLinkNest RX6 123 "StringVotes$Strings" "lower" "LStringVotes$Row;" RX6 ∈ NST := List.mem_filter.mpr ⟨List.mem_of_getElem? (i := 94) (by decide +kernel), rfl⟩
theorem q_95 : Cond.fieldLinkNest RX1 145 "StringVotes$Strings" "lower" "LStringVotes$Row;" RX6 ∈ NST := List.mem_filter.mpr ⟨List.mem_of_getElem? (i := 95) (by decide +kernel), rfl⟩
theorem q_96 : Cond.fieldLink RX3 20 "StringVotes$Strings" "upper" "LStringVotes$Row;" ∈ ALL := List.mem_filter.mpr ⟨List.mem_of_getElem? (i := 96) (by decide +kernel), rfl⟩
theorem q_97 : Cond.fieldLinkNest RX6 126 "StringVotes$Strings" "upper" "LStringVotes$Row;" RX6 ∈ NST := List.mem_filter.mpr ⟨List.mem_of_getElem? (i := 97) (by decide +kernel), rfl⟩
theorem q_98 : Cond.fieldLinkNest RX1 148 "StringVotes$Strings" "upper" "LStringVotes$Row;" RX6 ∈ NST := List.mem_filter.mpr ⟨List.mem_of_getElem? (i := 98) (by decide +kernel), rfl⟩
theorem q_99 : Cond.fieldLink RX3 23 "StringVotes$Strings" "unlike" "LStringVotes$Row;" ∈ ALL := List.mem_filter.mpr ⟨List.mem_of_getElem? (i := 99) (by decide +kernel), rfl⟩
theorem q_100 : Cond.fieldLinkNest RX6 129 "StringVotes$Strings" "unlike" "LStringVotes$Row;" RX6 ∈ NST := List.mem_filter.mpr ⟨List.mem_of_getElem? (i := 100) (by decide +kernel), rfl⟩
theorem q_101 : Cond.fieldLinkNest RX1 159 "StringVotes$Strings" "unlike" "LStringVotes$Row;" RX6 ∈ NST := List.mem_filter.mpr ⟨List.mem_of_getElem? (i := 101) (by decide +kernel), rfl⟩
theorem q_102 : Cond.fieldLink RX3 26 "StringVotes$Strings" "deal" "LStringVotes$Row;" ∈ ALL := List.mem_filter.mpr ⟨List.mem_of_getElem? (i := 102) (by decide +kernel), rfl⟩
theorem q_103 : Cond.fieldLinkNest RX6 132 "StringVotes$Strings" "deal" "LStringVotes$Row;" RX6 ∈ NST := List.mem_filter.mpr ⟨List.mem_of_getElem? (i := 103) (by decide +kernel), rfl⟩
theorem q_104 : Cond.fieldLink RX3 33 "StringVotes$Strings" "size" "I" ∈ ALL := List.mem_filter.mpr ⟨List.mem_of_getElem? (i := 104) (by decide +kernel), rfl⟩
theorem q_105 : Cond.fieldLinkNest RX1 100 "StringVotes$Strings" "size" "I" RX6 ∈ NST := List.mem_filter.mpr ⟨List.mem_of_getElem? (i := 105) (by decide +kernel), rfl⟩
theorem q_106 : Cond.fieldLinkNest RX6 209 "StringVotes$Strings" "size" "I" RX6 ∈ NST := List.mem_filter.mpr ⟨List.mem_of_getElem? (i := 106) (by decide +kernel), rfl⟩
theorem q_107 : Cond.fieldLink RX3 37 "StringVotes$Strings" "cuts" "I" ∈ ALL := List.mem_filter.mpr ⟨List.mem_of_getElem? (i := 107) (by decide +kernel), rfl⟩
theorem q_108 : Cond.fieldLinkNest RX6 236 "StringVotes$Strings" "cuts" "I" RX6 ∈ NST := List.mem_filter.mpr ⟨List.mem_of_getElem? (i := 108) (by decide +kernel), rfl⟩
theorem q_122 : Cond.classLink RX1 42 RX0 ∈ ALL := List.mem_filter.mpr ⟨List.mem_of_getElem? (i := 122) (by decide +kernel), rfl⟩
theorem q_123 : Cond.instantiable RX0 3 ∈ ALL := List.mem_filter.mpr ⟨List.mem_of_getElem? (i := 123) (by decide +kernel), rfl⟩
theorem q_124 : Cond.methodLinkNest RX1 44 yX0_init RX6 ∈ NST := List.mem_filter.mpr ⟨List.mem_of_getElem? (i := 124) (by decide +kernel), rfl⟩
theorem q_125 : Cond.instanceMethod yX0_init ∈ ALL := List.mem_filter.mpr ⟨List.mem_of_getElem? (i := 125) (by decide +kernel), rfl⟩
theorem q_126 : Cond.code yX0_init cX0_init 1 none ∈ ALL := List.mem_filter.mpr ⟨List.mem_of_getElem? (i := 126) (by decide +kernel), rfl⟩
theorem q_127 : Cond.methodLink RX0 3 objectInit ∈ ALL := List.mem_filter.mpr ⟨List.mem_of_getElem? (i := 127) (by decide +kernel), rfl⟩
theorem q_128 : Cond.classLink RX0 9 RX2 ∈ ALL := List.mem_filter.mpr ⟨List.mem_of_getElem? (i := 128) (by decide +kernel), rfl⟩
theorem q_129 : Cond.methodLinkNest RX0 11 yX2_init RX6 ∈ NST := List.mem_filter.mpr ⟨List.mem_of_getElem? (i := 129) (by decide +kernel), rfl⟩
theorem q_130 : Cond.fieldLink RX0 14 "StringVotes$Book" "entries" "LStringVotes$Row;" ∈ ALL := List.mem_filter.mpr ⟨List.mem_of_getElem? (i := 130) (by decide +kernel), rfl⟩
theorem q_131 : Cond.fieldLink RX0 24 "StringVotes$Book" "sessions" "I" ∈ ALL := List.mem_filter.mpr ⟨List.mem_of_getElem? (i := 131) (by decide +kernel), rfl⟩
theorem q_132 : Cond.fieldLinkNest RX1 131 "StringVotes$Book" "sessions" "I" RX6 ∈ NST := List.mem_filter.mpr ⟨List.mem_of_getElem? (i := 132) (by decide +kernel), rfl⟩
theorem q_133 : Cond.fieldLinkNest RX6 224 "StringVotes$Book" "sessions" "I" RX6 ∈ NST := List.mem_filter.mpr ⟨List.mem_of_getElem? (i := 133) (by decide +kernel), rfl⟩
theorem q_134 : Cond.fieldLink RX0 28 "StringVotes$Book" "passed" "I" ∈ ALL := List.mem_filter.mpr ⟨List.mem_of_getElem? (i := 134) (by decide +kernel), rfl⟩
theorem q_135 : Cond.fieldLinkNest RX6 227 "StringVotes$Book" "passed" "I" RX6 ∈ NST := List.mem_filter.mpr ⟨List.mem_of_getElem? (i := 135) (by decide +kernel), rfl⟩
theorem q_143 : Cond.fieldLink RX1 14 "StringVotes$Parliament" "seats" "LStringVotes$Row;" ∈ ALL := List.mem_filter.mpr ⟨List.mem_of_getElem? (i := 143) (by decide +kernel), rfl⟩
theorem q_144 : Cond.fieldLinkNest RX6 86 "StringVotes$Parliament" "seats" "LStringVotes$Row;" RX6 ∈ NST := List.mem_filter.mpr ⟨List.mem_of_getElem? (i := 144) (by decide +kernel), rfl⟩
theorem q_145 : Cond.fieldLink RX1 20 "StringVotes$Parliament" "leaning" "LStringVotes$Row;" ∈ ALL := List.mem_filter.mpr ⟨List.mem_of_getElem? (i := 145) (by decide +kernel), rfl⟩
theorem q_146 : Cond.fieldLinkNest RX6 89 "StringVotes$Parliament" "leaning" "LStringVotes$Row;" RX6 ∈ NST := List.mem_filter.mpr ⟨List.mem_of_getElem? (i := 146) (by decide +kernel), rfl⟩
theorem q_147 : Cond.fieldLink RX1 23 "StringVotes$Parliament" "pulled" "LStringVotes$Row;" ∈ ALL := List.mem_filter.mpr ⟨List.mem_of_getElem? (i := 147) (by decide +kernel), rfl⟩
theorem q_148 : Cond.fieldLinkNest RX6 95 "StringVotes$Parliament" "pulled" "LStringVotes$Row;" RX6 ∈ NST := List.mem_filter.mpr ⟨List.mem_of_getElem? (i := 148) (by decide +kernel), rfl⟩
theorem q_149 : Cond.fieldLink RX1 26 "StringVotes$Parliament" "lowest" "LStringVotes$Row;" ∈ ALL := List.mem_filter.mpr ⟨List.mem_of_getElem? (i := 149) (by decide +kernel), rfl⟩
theorem q_150 : Cond.fieldLinkNest RX6 77 "StringVotes$Parliament" "lowest" "LStringVotes$Row;" RX6 ∈ NST := List.mem_filter.mpr ⟨List.mem_of_getElem? (i := 150) (by decide +kernel), rfl⟩
theorem q_151 : Cond.fieldLink RX1 29 "StringVotes$Parliament" "side" "LStringVotes$Row;" ∈ ALL := List.mem_filter.mpr ⟨List.mem_of_getElem? (i := 151) (by decide +kernel), rfl⟩
theorem q_152 : Cond.fieldLinkNest RX6 102 "StringVotes$Parliament" "side" "LStringVotes$Row;" RX6 ∈ NST := List.mem_filter.mpr ⟨List.mem_of_getElem? (i := 152) (by decide +kernel), rfl⟩
theorem q_153 : Cond.fieldLink RX1 32 "StringVotes$Parliament" "vote" "LStringVotes$Row;" ∈ ALL := List.mem_filter.mpr ⟨List.mem_of_getElem? (i := 153) (by decide +kernel), rfl⟩
theorem q_154 : Cond.fieldLinkNest RX6 99 "StringVotes$Parliament" "vote" "LStringVotes$Row;" RX6 ∈ NST := List.mem_filter.mpr ⟨List.mem_of_getElem? (i := 154) (by decide +kernel), rfl⟩
theorem q_155 : Cond.fieldLink RX1 38 "StringVotes$Parliament" "strings" "LStringVotes$Strings;" ∈ ALL := List.mem_filter.mpr ⟨List.mem_of_getElem? (i := 155) (by decide +kernel), rfl⟩
theorem q_156 : Cond.fieldLinkNest RX6 105 "StringVotes$Parliament" "strings" "LStringVotes$Strings;" RX6 ∈ NST := List.mem_filter.mpr ⟨List.mem_of_getElem? (i := 156) (by decide +kernel), rfl⟩
theorem q_157 : Cond.fieldLink RX1 45 "StringVotes$Parliament" "book" "LStringVotes$Book;" ∈ ALL := List.mem_filter.mpr ⟨List.mem_of_getElem? (i := 157) (by decide +kernel), rfl⟩
theorem q_158 : Cond.fieldLinkNest RX6 152 "StringVotes$Parliament" "book" "LStringVotes$Book;" RX6 ∈ NST := List.mem_filter.mpr ⟨List.mem_of_getElem? (i := 158) (by decide +kernel), rfl⟩
theorem q_159 : Cond.fieldLink RX1 63 "StringVotes$Parliament" "puppets" "I" ∈ ALL := List.mem_filter.mpr ⟨List.mem_of_getElem? (i := 159) (by decide +kernel), rfl⟩
theorem q_160 : Cond.fieldLinkNest RX6 178 "StringVotes$Parliament" "puppets" "I" RX6 ∈ NST := List.mem_filter.mpr ⟨List.mem_of_getElem? (i := 160) (by decide +kernel), rfl⟩
theorem q_161 : Cond.fieldLink RX1 66 "StringVotes$Parliament" "speaker" "I" ∈ ALL := List.mem_filter.mpr ⟨List.mem_of_getElem? (i := 161) (by decide +kernel), rfl⟩
theorem q_162 : Cond.fieldLinkNest RX6 218 "StringVotes$Parliament" "speaker" "I" RX6 ∈ NST := List.mem_filter.mpr ⟨List.mem_of_getElem? (i := 162) (by decide +kernel), rfl⟩
theorem q_163 : Cond.fieldLink RX1 49 "StringVotes$Parliament" "pullsBound" "I" ∈ ALL := List.mem_filter.mpr ⟨List.mem_of_getElem? (i := 163) (by decide +kernel), rfl⟩
theorem q_164 : Cond.fieldLinkNest RX6 239 "StringVotes$Parliament" "pullsBound" "I" RX6 ∈ NST := List.mem_filter.mpr ⟨List.mem_of_getElem? (i := 164) (by decide +kernel), rfl⟩
theorem q_165 : Cond.fieldLink RX1 69 "StringVotes$Parliament" "allSeats" "I" ∈ ALL := List.mem_filter.mpr ⟨List.mem_of_getElem? (i := 165) (by decide +kernel), rfl⟩
theorem q_166 : Cond.fieldLinkNest RX6 201 "StringVotes$Parliament" "allSeats" "I" RX6 ∈ NST := List.mem_filter.mpr ⟨List.mem_of_getElem? (i := 166) (by decide +kernel), rfl⟩
theorem q_167 : Cond.fieldLink RX1 72 "StringVotes$Parliament" "yesSeats" "I" ∈ ALL := List.mem_filter.mpr ⟨List.mem_of_getElem? (i := 167) (by decide +kernel), rfl⟩
theorem q_168 : Cond.fieldLinkNest RX6 174 "StringVotes$Parliament" "yesSeats" "I" RX6 ∈ NST := List.mem_filter.mpr ⟨List.mem_of_getElem? (i := 168) (by decide +kernel), rfl⟩
theorem q_197 : Cond.classLink RX6 23 RX5 ∈ ALL := List.mem_filter.mpr ⟨List.mem_of_getElem? (i := 197) (by decide +kernel), rfl⟩
theorem q_198 : Cond.instantiable RX5 3 ∈ ALL := List.mem_filter.mpr ⟨List.mem_of_getElem? (i := 198) (by decide +kernel), rfl⟩
theorem q_199 : Cond.methodLinkNest RX6 25 yX5_init RX6 ∈ NST := List.mem_filter.mpr ⟨List.mem_of_getElem? (i := 199) (by decide +kernel), rfl⟩
theorem q_200 : Cond.instanceMethod yX5_init ∈ ALL := List.mem_filter.mpr ⟨List.mem_of_getElem? (i := 200) (by decide +kernel), rfl⟩
theorem q_201 : Cond.code yX5_init cX5_init 1 none ∈ ALL := List.mem_filter.mpr ⟨List.mem_of_getElem? (i := 201) (by decide +kernel), rfl⟩
theorem q_202 : Cond.methodLink RX5 3 objectInit ∈ ALL := List.mem_filter.mpr ⟨List.mem_of_getElem? (i := 202) (by decide +kernel), rfl⟩
theorem q_203 : Cond.classLink RX5 9 RX2 ∈ ALL := List.mem_filter.mpr ⟨List.mem_of_getElem? (i := 203) (by decide +kernel), rfl⟩
theorem q_204 : Cond.methodLinkNest RX5 11 yX2_init RX6 ∈ NST := List.mem_filter.mpr ⟨List.mem_of_getElem? (i := 204) (by decide +kernel), rfl⟩
theorem q_205 : Cond.fieldLink RX5 14 "StringVotes$Turns" "gains" "LStringVotes$Row;" ∈ ALL := List.mem_filter.mpr ⟨List.mem_of_getElem? (i := 205) (by decide +kernel), rfl⟩
theorem q_213 : Cond.classLink RX6 30 RX4 ∈ ALL := List.mem_filter.mpr ⟨List.mem_of_getElem? (i := 213) (by decide +kernel), rfl⟩
theorem q_214 : Cond.instantiable RX4 5 ∈ ALL := List.mem_filter.mpr ⟨List.mem_of_getElem? (i := 214) (by decide +kernel), rfl⟩
theorem q_215 : Cond.methodLinkNest RX6 32 yX4_init RX6 ∈ NST := List.mem_filter.mpr ⟨List.mem_of_getElem? (i := 215) (by decide +kernel), rfl⟩
theorem q_216 : Cond.instanceMethod yX4_init ∈ ALL := List.mem_filter.mpr ⟨List.mem_of_getElem? (i := 216) (by decide +kernel), rfl⟩
theorem q_217 : Cond.code yX4_init cX4_init 1 none ∈ ALL := List.mem_filter.mpr ⟨List.mem_of_getElem? (i := 217) (by decide +kernel), rfl⟩
theorem q_218 : Cond.methodLink RX4 3 objectInit ∈ ALL := List.mem_filter.mpr ⟨List.mem_of_getElem? (i := 218) (by decide +kernel), rfl⟩
theorem q_219 : Cond.classLink RX4 9 RX2 ∈ ALL := List.mem_filter.mpr ⟨List.mem_of_getElem? (i := 219) (by decide +kernel), rfl⟩
theorem q_220 : Cond.methodLinkNest RX4 11 yX2_init RX6 ∈ NST := List.mem_filter.mpr ⟨List.mem_of_getElem? (i := 220) (by decide +kernel), rfl⟩
theorem q_221 : Cond.fieldLink RX4 14 "StringVotes$Text" "characters" "LStringVotes$Row;" ∈ ALL := List.mem_filter.mpr ⟨List.mem_of_getElem? (i := 221) (by decide +kernel), rfl⟩
theorem q_222 : Cond.fieldLinkNest RX6 233 "StringVotes$Text" "length" "I" RX6 ∈ NST := List.mem_filter.mpr ⟨List.mem_of_getElem? (i := 222) (by decide +kernel), rfl⟩
theorem q_223 : Cond.fieldLink RX4 20 "StringVotes$Text" "numbers" "LStringVotes$Row;" ∈ ALL := List.mem_filter.mpr ⟨List.mem_of_getElem? (i := 223) (by decide +kernel), rfl⟩
theorem q_235 : Cond.fieldLink RX6 10 "StringVotes" "now" "LStringVotes$Parliament;" ∈ ALL := List.mem_filter.mpr ⟨List.mem_of_getElem? (i := 235) (by decide +kernel), rfl⟩
theorem q_236 : Cond.fieldLink RX6 16 "StringVotes" "trial" "LStringVotes$Parliament;" ∈ ALL := List.mem_filter.mpr ⟨List.mem_of_getElem? (i := 236) (by decide +kernel), rfl⟩
theorem q_237 : Cond.fieldLink RX6 19 "StringVotes" "past" "[LStringVotes$Parliament;" ∈ ALL := List.mem_filter.mpr ⟨List.mem_of_getElem? (i := 237) (by decide +kernel), rfl⟩
theorem q_238 : Cond.fieldLink RX6 291 "StringVotes" "oldestSlot" "I" ∈ ALL := List.mem_filter.mpr ⟨List.mem_of_getElem? (i := 238) (by decide +kernel), rfl⟩
theorem q_239 : Cond.fieldLink RX6 230 "StringVotes" "states" "I" ∈ ALL := List.mem_filter.mpr ⟨List.mem_of_getElem? (i := 239) (by decide +kernel), rfl⟩
theorem q_240 : Cond.fieldLink RX6 26 "StringVotes" "turns" "LStringVotes$Turns;" ∈ ALL := List.mem_filter.mpr ⟨List.mem_of_getElem? (i := 240) (by decide +kernel), rfl⟩
theorem q_241 : Cond.fieldLink RX6 33 "StringVotes" "text" "LStringVotes$Text;" ∈ ALL := List.mem_filter.mpr ⟨List.mem_of_getElem? (i := 241) (by decide +kernel), rfl⟩
theorem q_265 : Cond.methodLink RL 97 yL_cell ∈ ALL := List.mem_filter.mpr ⟨List.mem_of_getElem? (i := 265) (by decide +kernel), rfl⟩
theorem q_266 : Cond.static yL_cell ∈ ALL := List.mem_filter.mpr ⟨List.mem_of_getElem? (i := 266) (by decide +kernel), rfl⟩
theorem q_267 : Cond.code yL_cell cL_cell 2 (some .int) ∈ ALL := List.mem_filter.mpr ⟨List.mem_of_getElem? (i := 267) (by decide +kernel), rfl⟩
theorem q_268 : Cond.constant RL 7 (40503) ∈ ALL := List.mem_filter.mpr ⟨List.mem_of_getElem? (i := 268) (by decide +kernel), rfl⟩
theorem q_269 : Cond.methodLink RL 105 yL_arePuppets ∈ ALL := List.mem_filter.mpr ⟨List.mem_of_getElem? (i := 269) (by decide +kernel), rfl⟩
theorem q_270 : Cond.static yL_arePuppets ∈ ALL := List.mem_filter.mpr ⟨List.mem_of_getElem? (i := 270) (by decide +kernel), rfl⟩
theorem q_272 : Cond.methodLink RL 19 yL_yes ∈ ALL := List.mem_filter.mpr ⟨List.mem_of_getElem? (i := 272) (by decide +kernel), rfl⟩
theorem q_273 : Cond.static yL_yes ∈ ALL := List.mem_filter.mpr ⟨List.mem_of_getElem? (i := 273) (by decide +kernel), rfl⟩
theorem q_274 : Cond.code yL_yes cL_yes 12 (some .int) ∈ ALL := List.mem_filter.mpr ⟨List.mem_of_getElem? (i := 274) (by decide +kernel), rfl⟩
theorem q_275 : Cond.methodLink RL 9 yL_groups ∈ ALL := List.mem_filter.mpr ⟨List.mem_of_getElem? (i := 275) (by decide +kernel), rfl⟩
theorem q_276 : Cond.static yL_groups ∈ ALL := List.mem_filter.mpr ⟨List.mem_of_getElem? (i := 276) (by decide +kernel), rfl⟩
theorem q_277 : Cond.code yL_groups cL_groups 12 (some .int) ∈ ALL := List.mem_filter.mpr ⟨List.mem_of_getElem? (i := 277) (by decide +kernel), rfl⟩
theorem q_278 : Cond.methodLink RL 22 yL_seats ∈ ALL := List.mem_filter.mpr ⟨List.mem_of_getElem? (i := 278) (by decide +kernel), rfl⟩
theorem q_279 : Cond.static yL_seats ∈ ALL := List.mem_filter.mpr ⟨List.mem_of_getElem? (i := 279) (by decide +kernel), rfl⟩
theorem q_280 : Cond.code yL_seats cL_seats 4 (some .int) ∈ ALL := List.mem_filter.mpr ⟨List.mem_of_getElem? (i := 280) (by decide +kernel), rfl⟩
theorem q_281 : Cond.methodLink RL 26 yX6_puppetOf ∈ ALL := List.mem_filter.mpr ⟨List.mem_of_getElem? (i := 281) (by decide +kernel), rfl⟩
theorem q_282 : Cond.instanceMethod yX6_puppetOf ∈ ALL := List.mem_filter.mpr ⟨List.mem_of_getElem? (i := 282) (by decide +kernel), rfl⟩
theorem q_283 : Cond.selects RX6 yX6_puppetOf yX6_puppetOf ∈ ALL := List.mem_filter.mpr ⟨List.mem_of_getElem? (i := 283) (by decide +kernel), rfl⟩
theorem q_284 : Cond.code yX6_puppetOf cX6_puppetOf 4 (some .int) ∈ ALL := List.mem_filter.mpr ⟨List.mem_of_getElem? (i := 284) (by decide +kernel), rfl⟩
theorem q_285 : Cond.methodLinkNest RX6 73 yX1_hasPuppet RX6 ∈ NST := List.mem_filter.mpr ⟨List.mem_of_getElem? (i := 285) (by decide +kernel), rfl⟩
theorem q_287 : Cond.instanceMethod yX1_hasPuppet ∈ ALL := List.mem_filter.mpr ⟨List.mem_of_getElem? (i := 287) (by decide +kernel), rfl⟩
theorem q_288 : Cond.code yX1_hasPuppet cX1_hasPuppet 2 (some .boolean) ∈ ALL := List.mem_filter.mpr ⟨List.mem_of_getElem? (i := 288) (by decide +kernel), rfl⟩
theorem q_289 : Cond.constant RX6 69 (-1000001) ∈ ALL := List.mem_filter.mpr ⟨List.mem_of_getElem? (i := 289) (by decide +kernel), rfl⟩
theorem q_290 : Cond.methodLinkNest RX6 81 yX2_get RX6 ∈ NST := List.mem_filter.mpr ⟨List.mem_of_getElem? (i := 290) (by decide +kernel), rfl⟩
theorem q_292 : Cond.instanceMethod yX2_get ∈ ALL := List.mem_filter.mpr ⟨List.mem_of_getElem? (i := 292) (by decide +kernel), rfl⟩
theorem q_293 : Cond.code yX2_get cX2_get 2 (some .int) ∈ ALL := List.mem_filter.mpr ⟨List.mem_of_getElem? (i := 293) (by decide +kernel), rfl⟩
theorem q_294 : Cond.methodLinkNest RX6 92 yX1_isPulled RX6 ∈ NST := List.mem_filter.mpr ⟨List.mem_of_getElem? (i := 294) (by decide +kernel), rfl⟩
theorem q_296 : Cond.instanceMethod yX1_isPulled ∈ ALL := List.mem_filter.mpr ⟨List.mem_of_getElem? (i := 296) (by decide +kernel), rfl⟩
theorem q_297 : Cond.code yX1_isPulled cX1_isPulled 2 (some .boolean) ∈ ALL := List.mem_filter.mpr ⟨List.mem_of_getElem? (i := 297) (by decide +kernel), rfl⟩
theorem q_298 : Cond.methodLinkNest RX1 128 yX2_get RX6 ∈ NST := List.mem_filter.mpr ⟨List.mem_of_getElem? (i := 298) (by decide +kernel), rfl⟩
theorem q_299 : Cond.constant RX6 98 (-1000004) ∈ ALL := List.mem_filter.mpr ⟨List.mem_of_getElem? (i := 299) (by decide +kernel), rfl⟩
theorem q_300 : Cond.methodLinkNest RX6 109 yX3_howManyAt RX6 ∈ NST := List.mem_filter.mpr ⟨List.mem_of_getElem? (i := 300) (by decide +kernel), rfl⟩
theorem q_302 : Cond.instanceMethod yX3_howManyAt ∈ ALL := List.mem_filter.mpr ⟨List.mem_of_getElem? (i := 302) (by decide +kernel), rfl⟩
theorem q_303 : Cond.code yX3_howManyAt cX3_howManyAt 4 (some .int) ∈ ALL := List.mem_filter.mpr ⟨List.mem_of_getElem? (i := 303) (by decide +kernel), rfl⟩
theorem q_304 : Cond.methodLinkNest RX3 56 yX2_get RX6 ∈ NST := List.mem_filter.mpr ⟨List.mem_of_getElem? (i := 304) (by decide +kernel), rfl⟩
theorem q_305 : Cond.methodLinkNest RX6 114 yX1_membersOf RX6 ∈ NST := List.mem_filter.mpr ⟨List.mem_of_getElem? (i := 305) (by decide +kernel), rfl⟩
theorem q_307 : Cond.instanceMethod yX1_membersOf ∈ ALL := List.mem_filter.mpr ⟨List.mem_of_getElem? (i := 307) (by decide +kernel), rfl⟩
theorem q_308 : Cond.code yX1_membersOf cX1_membersOf 4 (some .int) ∈ ALL := List.mem_filter.mpr ⟨List.mem_of_getElem? (i := 308) (by decide +kernel), rfl⟩
theorem q_309 : Cond.methodLinkNest RX6 117 yX1_seatsIn RX6 ∈ NST := List.mem_filter.mpr ⟨List.mem_of_getElem? (i := 309) (by decide +kernel), rfl⟩
theorem q_311 : Cond.instanceMethod yX1_seatsIn ∈ ALL := List.mem_filter.mpr ⟨List.mem_of_getElem? (i := 311) (by decide +kernel), rfl⟩
theorem q_312 : Cond.code yX1_seatsIn cX1_seatsIn 4 (some .int) ∈ ALL := List.mem_filter.mpr ⟨List.mem_of_getElem? (i := 312) (by decide +kernel), rfl⟩
theorem q_313 : Cond.methodLinkNest RX1 174 yX6_isMember RX6 ∈ NST := List.mem_filter.mpr ⟨List.mem_of_getElem? (i := 313) (by decide +kernel), rfl⟩
theorem q_314 : Cond.static yX6_isMember ∈ ALL := List.mem_filter.mpr ⟨List.mem_of_getElem? (i := 314) (by decide +kernel), rfl⟩
theorem q_315 : Cond.code yX6_isMember cX6_isMember 2 (some .boolean) ∈ ALL := List.mem_filter.mpr ⟨List.mem_of_getElem? (i := 315) (by decide +kernel), rfl⟩
theorem q_316 : Cond.constant RL 32 (-1000001) ∈ ALL := List.mem_filter.mpr ⟨List.mem_of_getElem? (i := 316) (by decide +kernel), rfl⟩
theorem q_317 : Cond.constant RL 33 (-1000004) ∈ ALL := List.mem_filter.mpr ⟨List.mem_of_getElem? (i := 317) (by decide +kernel), rfl⟩
theorem q_318 : Cond.methodLink RL 34 yX6_count ∈ ALL := List.mem_filter.mpr ⟨List.mem_of_getElem? (i := 318) (by decide +kernel), rfl⟩
theorem q_319 : Cond.instanceMethod yX6_count ∈ ALL := List.mem_filter.mpr ⟨List.mem_of_getElem? (i := 319) (by decide +kernel), rfl⟩
theorem q_320 : Cond.selects RX6 yX6_count yX6_count ∈ ALL := List.mem_filter.mpr ⟨List.mem_of_getElem? (i := 320) (by decide +kernel), rfl⟩
theorem q_321 : Cond.code yX6_count cX6_count 2 (some .int) ∈ ALL := List.mem_filter.mpr ⟨List.mem_of_getElem? (i := 321) (by decide +kernel), rfl⟩
theorem q_322 : Cond.methodLinkNest RX6 198 yX1_groupsByJoining RX6 ∈ NST := List.mem_filter.mpr ⟨List.mem_of_getElem? (i := 322) (by decide +kernel), rfl⟩
theorem q_324 : Cond.instanceMethod yX1_groupsByJoining ∈ ALL := List.mem_filter.mpr ⟨List.mem_of_getElem? (i := 324) (by decide +kernel), rfl⟩
theorem q_325 : Cond.code yX1_groupsByJoining cX1_groupsByJoining 3 (some .int) ∈ ALL := List.mem_filter.mpr ⟨List.mem_of_getElem? (i := 325) (by decide +kernel), rfl⟩
theorem q_326 : Cond.methodLinkNest RX6 212 yX1_groupsByWalking RX6 ∈ NST := List.mem_filter.mpr ⟨List.mem_of_getElem? (i := 326) (by decide +kernel), rfl⟩
theorem q_328 : Cond.instanceMethod yX1_groupsByWalking ∈ ALL := List.mem_filter.mpr ⟨List.mem_of_getElem? (i := 328) (by decide +kernel), rfl⟩
theorem q_329 : Cond.code yX1_groupsByWalking cX1_groupsByWalking 4 (some .int) ∈ ALL := List.mem_filter.mpr ⟨List.mem_of_getElem? (i := 329) (by decide +kernel), rfl⟩
theorem q_330 : Cond.methodLink RX1 177 yX1_walkFrom ∈ ALL := List.mem_filter.mpr ⟨List.mem_of_getElem? (i := 330) (by decide +kernel), rfl⟩
theorem q_332 : Cond.instanceMethod yX1_walkFrom ∈ ALL := List.mem_filter.mpr ⟨List.mem_of_getElem? (i := 332) (by decide +kernel), rfl⟩
theorem q_333 : Cond.code yX1_walkFrom cX1_walkFrom 4 (some .int) ∈ ALL := List.mem_filter.mpr ⟨List.mem_of_getElem? (i := 333) (by decide +kernel), rfl⟩
theorem q_334 : Cond.methodLinkNest RX1 180 yX3_oneStringFurther RX6 ∈ NST := List.mem_filter.mpr ⟨List.mem_of_getElem? (i := 334) (by decide +kernel), rfl⟩
theorem q_336 : Cond.instanceMethod yX3_oneStringFurther ∈ ALL := List.mem_filter.mpr ⟨List.mem_of_getElem? (i := 336) (by decide +kernel), rfl⟩
theorem q_337 : Cond.code yX3_oneStringFurther cX3_oneStringFurther 5 (some .int) ∈ ALL := List.mem_filter.mpr ⟨List.mem_of_getElem? (i := 337) (by decide +kernel), rfl⟩
theorem q_338 : Cond.methodLinkNest RX6 215 yX1_wouldPass RX6 ∈ NST := List.mem_filter.mpr ⟨List.mem_of_getElem? (i := 338) (by decide +kernel), rfl⟩
theorem q_340 : Cond.instanceMethod yX1_wouldPass ∈ ALL := List.mem_filter.mpr ⟨List.mem_of_getElem? (i := 340) (by decide +kernel), rfl⟩
theorem q_341 : Cond.code yX1_wouldPass cX1_wouldPass 2 (some .int) ∈ ALL := List.mem_filter.mpr ⟨List.mem_of_getElem? (i := 341) (by decide +kernel), rfl⟩
theorem q_342 : Cond.methodLinkNest RX6 221 yX1_pulledPuppets RX6 ∈ NST := List.mem_filter.mpr ⟨List.mem_of_getElem? (i := 342) (by decide +kernel), rfl⟩
theorem q_344 : Cond.instanceMethod yX1_pulledPuppets ∈ ALL := List.mem_filter.mpr ⟨List.mem_of_getElem? (i := 344) (by decide +kernel), rfl⟩
theorem q_345 : Cond.code yX1_pulledPuppets cX1_pulledPuppets 3 (some .int) ∈ ALL := List.mem_filter.mpr ⟨List.mem_of_getElem? (i := 345) (by decide +kernel), rfl⟩
theorem q_346 : Cond.methodLink RX1 125 yX1_isPulled ∈ ALL := List.mem_filter.mpr ⟨List.mem_of_getElem? (i := 346) (by decide +kernel), rfl⟩
theorem q_347 : Cond.methodLinkNest RX6 156 yX0_kept RX6 ∈ NST := List.mem_filter.mpr ⟨List.mem_of_getElem? (i := 347) (by decide +kernel), rfl⟩
theorem q_349 : Cond.instanceMethod yX0_kept ∈ ALL := List.mem_filter.mpr ⟨List.mem_of_getElem? (i := 349) (by decide +kernel), rfl⟩
theorem q_350 : Cond.code yX0_kept cX0_kept 1 (some .int) ∈ ALL := List.mem_filter.mpr ⟨List.mem_of_getElem? (i := 350) (by decide +kernel), rfl⟩
theorem q_351 : Cond.methodLink RX0 31 yJ9_min_7cf53 ∈ ALL := List.mem_filter.mpr ⟨List.mem_of_getElem? (i := 351) (by decide +kernel), rfl⟩
theorem q_352 : Cond.static yJ9_min_7cf53 ∈ ALL := List.mem_filter.mpr ⟨List.mem_of_getElem? (i := 352) (by decide +kernel), rfl⟩
theorem q_353 : Cond.code yJ9_min_7cf53 cJ9_min_7cf53 2 (some .int) ∈ ALL := List.mem_filter.mpr ⟨List.mem_of_getElem? (i := 353) (by decide +kernel), rfl⟩
theorem q_354 : Cond.methodLink RL 109 yL_areStrings ∈ ALL := List.mem_filter.mpr ⟨List.mem_of_getElem? (i := 354) (by decide +kernel), rfl⟩
theorem q_355 : Cond.static yL_areStrings ∈ ALL := List.mem_filter.mpr ⟨List.mem_of_getElem? (i := 355) (by decide +kernel), rfl⟩
theorem q_356 : Cond.code yL_areStrings cL_areStrings 10 (some .boolean) ∈ ALL := List.mem_filter.mpr ⟨List.mem_of_getElem? (i := 356) (by decide +kernel), rfl⟩
theorem q_357 : Cond.methodLink RL 38 yX6_stringOf ∈ ALL := List.mem_filter.mpr ⟨List.mem_of_getElem? (i := 357) (by decide +kernel), rfl⟩
theorem q_358 : Cond.instanceMethod yX6_stringOf ∈ ALL := List.mem_filter.mpr ⟨List.mem_of_getElem? (i := 358) (by decide +kernel), rfl⟩
theorem q_359 : Cond.selects RX6 yX6_stringOf yX6_stringOf ∈ ALL := List.mem_filter.mpr ⟨List.mem_of_getElem? (i := 359) (by decide +kernel), rfl⟩
theorem q_360 : Cond.code yX6_stringOf cX6_stringOf 3 (some .int) ∈ ALL := List.mem_filter.mpr ⟨List.mem_of_getElem? (i := 360) (by decide +kernel), rfl⟩
theorem q_361 : Cond.methodLinkNest RX6 120 yX3_has RX6 ∈ NST := List.mem_filter.mpr ⟨List.mem_of_getElem? (i := 361) (by decide +kernel), rfl⟩
theorem q_363 : Cond.instanceMethod yX3_has ∈ ALL := List.mem_filter.mpr ⟨List.mem_of_getElem? (i := 363) (by decide +kernel), rfl⟩
theorem q_364 : Cond.code yX3_has cX3_has 2 (some .boolean) ∈ ALL := List.mem_filter.mpr ⟨List.mem_of_getElem? (i := 364) (by decide +kernel), rfl⟩
theorem q_365 : Cond.methodLink RX6 135 yX6_hangTogetherWithout ∈ ALL := List.mem_filter.mpr ⟨List.mem_of_getElem? (i := 365) (by decide +kernel), rfl⟩
theorem q_367 : Cond.instanceMethod yX6_hangTogetherWithout ∈ ALL := List.mem_filter.mpr ⟨List.mem_of_getElem? (i := 367) (by decide +kernel), rfl⟩
theorem q_368 : Cond.code yX6_hangTogetherWithout cX6_hangTogetherWithout 2 (some .boolean) ∈ ALL := List.mem_filter.mpr ⟨List.mem_of_getElem? (i := 368) (by decide +kernel), rfl⟩
theorem q_369 : Cond.methodLinkNest RX6 37 yX1_copyFrom RX6 ∈ NST := List.mem_filter.mpr ⟨List.mem_of_getElem? (i := 369) (by decide +kernel), rfl⟩
theorem q_371 : Cond.instanceMethod yX1_copyFrom ∈ ALL := List.mem_filter.mpr ⟨List.mem_of_getElem? (i := 371) (by decide +kernel), rfl⟩
theorem q_372 : Cond.code yX1_copyFrom cX1_copyFrom 2 none ∈ ALL := List.mem_filter.mpr ⟨List.mem_of_getElem? (i := 372) (by decide +kernel), rfl⟩
theorem q_373 : Cond.methodLinkNest RX1 53 yX2_copyFrom RX6 ∈ NST := List.mem_filter.mpr ⟨List.mem_of_getElem? (i := 373) (by decide +kernel), rfl⟩
theorem q_375 : Cond.instanceMethod yX2_copyFrom ∈ ALL := List.mem_filter.mpr ⟨List.mem_of_getElem? (i := 375) (by decide +kernel), rfl⟩
theorem q_376 : Cond.code yX2_copyFrom cX2_copyFrom 2 none ∈ ALL := List.mem_filter.mpr ⟨List.mem_of_getElem? (i := 376) (by decide +kernel), rfl⟩
theorem q_377 : Cond.methodLink RX2 19 yJ9_min_7cf53 ∈ ALL := List.mem_filter.mpr ⟨List.mem_of_getElem? (i := 377) (by decide +kernel), rfl⟩
theorem q_378 : Cond.methodLink RX2 22 arraycopyName ∈ ALL := List.mem_filter.mpr ⟨List.mem_of_getElem? (i := 378) (by decide +kernel), rfl⟩
theorem q_379 : Cond.static arraycopyName ∈ ALL := List.mem_filter.mpr ⟨List.mem_of_getElem? (i := 379) (by decide +kernel), rfl⟩
theorem q_380 : Cond.native arraycopyName ∈ ALL := List.mem_filter.mpr ⟨List.mem_of_getElem? (i := 380) (by decide +kernel), rfl⟩
theorem q_381 : Cond.methodLinkNest RX1 57 yX3_copyFrom RX6 ∈ NST := List.mem_filter.mpr ⟨List.mem_of_getElem? (i := 381) (by decide +kernel), rfl⟩
theorem q_383 : Cond.instanceMethod yX3_copyFrom ∈ ALL := List.mem_filter.mpr ⟨List.mem_of_getElem? (i := 383) (by decide +kernel), rfl⟩
theorem q_384 : Cond.code yX3_copyFrom cX3_copyFrom 2 none ∈ ALL := List.mem_filter.mpr ⟨List.mem_of_getElem? (i := 384) (by decide +kernel), rfl⟩
theorem q_385 : Cond.methodLinkNest RX3 29 yX2_copyFrom RX6 ∈ NST := List.mem_filter.mpr ⟨List.mem_of_getElem? (i := 385) (by decide +kernel), rfl⟩
theorem q_386 : Cond.methodLinkNest RX1 60 yX0_copyFrom RX6 ∈ NST := List.mem_filter.mpr ⟨List.mem_of_getElem? (i := 386) (by decide +kernel), rfl⟩
theorem q_388 : Cond.instanceMethod yX0_copyFrom ∈ ALL := List.mem_filter.mpr ⟨List.mem_of_getElem? (i := 388) (by decide +kernel), rfl⟩
theorem q_389 : Cond.code yX0_copyFrom cX0_copyFrom 2 none ∈ ALL := List.mem_filter.mpr ⟨List.mem_of_getElem? (i := 389) (by decide +kernel), rfl⟩
theorem q_390 : Cond.methodLinkNest RX0 20 yX2_copyFrom RX6 ∈ NST := List.mem_filter.mpr ⟨List.mem_of_getElem? (i := 390) (by decide +kernel), rfl⟩
theorem q_391 : Cond.methodLinkNest RX6 53 yX1_cutString RX6 ∈ NST := List.mem_filter.mpr ⟨List.mem_of_getElem? (i := 391) (by decide +kernel), rfl⟩
theorem q_393 : Cond.instanceMethod yX1_cutString ∈ ALL := List.mem_filter.mpr ⟨List.mem_of_getElem? (i := 393) (by decide +kernel), rfl⟩
theorem q_394 : Cond.code yX1_cutString cX1_cutString 2 (some .int) ∈ ALL := List.mem_filter.mpr ⟨List.mem_of_getElem? (i := 394) (by decide +kernel), rfl⟩
theorem q_395 : Cond.methodLinkNest RX1 107 yX3_has RX6 ∈ NST := List.mem_filter.mpr ⟨List.mem_of_getElem? (i := 395) (by decide +kernel), rfl⟩
theorem q_396 : Cond.constant RX1 79 (-1000001) ∈ ALL := List.mem_filter.mpr ⟨List.mem_of_getElem? (i := 396) (by decide +kernel), rfl⟩
theorem q_397 : Cond.methodLinkNest RX1 111 yX3_removeAt RX6 ∈ NST := List.mem_filter.mpr ⟨List.mem_of_getElem? (i := 397) (by decide +kernel), rfl⟩
theorem q_399 : Cond.instanceMethod yX3_removeAt ∈ ALL := List.mem_filter.mpr ⟨List.mem_of_getElem? (i := 399) (by decide +kernel), rfl⟩
theorem q_400 : Cond.code yX3_removeAt cX3_removeAt 2 none ∈ ALL := List.mem_filter.mpr ⟨List.mem_of_getElem? (i := 400) (by decide +kernel), rfl⟩
theorem q_401 : Cond.methodLinkNest RX3 53 yX2_removeAt RX6 ∈ NST := List.mem_filter.mpr ⟨List.mem_of_getElem? (i := 401) (by decide +kernel), rfl⟩
theorem q_403 : Cond.instanceMethod yX2_removeAt ∈ ALL := List.mem_filter.mpr ⟨List.mem_of_getElem? (i := 403) (by decide +kernel), rfl⟩
theorem q_404 : Cond.code yX2_removeAt cX2_removeAt 3 none ∈ ALL := List.mem_filter.mpr ⟨List.mem_of_getElem? (i := 404) (by decide +kernel), rfl⟩
theorem q_405 : Cond.methodLink RX1 85 yX1_tellGroups ∈ ALL := List.mem_filter.mpr ⟨List.mem_of_getElem? (i := 405) (by decide +kernel), rfl⟩
theorem q_407 : Cond.instanceMethod yX1_tellGroups ∈ ALL := List.mem_filter.mpr ⟨List.mem_of_getElem? (i := 407) (by decide +kernel), rfl⟩
theorem q_408 : Cond.code yX1_tellGroups cX1_tellGroups 2 none ∈ ALL := List.mem_filter.mpr ⟨List.mem_of_getElem? (i := 408) (by decide +kernel), rfl⟩
theorem q_409 : Cond.methodLinkNest RX1 81 yX2_put RX6 ∈ NST := List.mem_filter.mpr ⟨List.mem_of_getElem? (i := 409) (by decide +kernel), rfl⟩
theorem q_411 : Cond.instanceMethod yX2_put ∈ ALL := List.mem_filter.mpr ⟨List.mem_of_getElem? (i := 411) (by decide +kernel), rfl⟩
theorem q_412 : Cond.code yX2_put cX2_put 3 none ∈ ALL := List.mem_filter.mpr ⟨List.mem_of_getElem? (i := 412) (by decide +kernel), rfl⟩
theorem q_413 : Cond.methodLink RX1 142 yX1_joinBy ∈ ALL := List.mem_filter.mpr ⟨List.mem_of_getElem? (i := 413) (by decide +kernel), rfl⟩
theorem q_415 : Cond.instanceMethod yX1_joinBy ∈ ALL := List.mem_filter.mpr ⟨List.mem_of_getElem? (i := 415) (by decide +kernel), rfl⟩
theorem q_416 : Cond.code yX1_joinBy cX1_joinBy 8 none ∈ ALL := List.mem_filter.mpr ⟨List.mem_of_getElem? (i := 416) (by decide +kernel), rfl⟩
theorem q_417 : Cond.methodLink RX1 151 yJ9_min_7cf53 ∈ ALL := List.mem_filter.mpr ⟨List.mem_of_getElem? (i := 417) (by decide +kernel), rfl⟩
theorem q_418 : Cond.methodLink RX1 156 yJ9_max_7cf53 ∈ ALL := List.mem_filter.mpr ⟨List.mem_of_getElem? (i := 418) (by decide +kernel), rfl⟩
theorem q_419 : Cond.methodLink RX1 88 yX1_tellVotes ∈ ALL := List.mem_filter.mpr ⟨List.mem_of_getElem? (i := 419) (by decide +kernel), rfl⟩
theorem q_421 : Cond.instanceMethod yX1_tellVotes ∈ ALL := List.mem_filter.mpr ⟨List.mem_of_getElem? (i := 421) (by decide +kernel), rfl⟩
theorem q_422 : Cond.code yX1_tellVotes cX1_tellVotes 4 none ∈ ALL := List.mem_filter.mpr ⟨List.mem_of_getElem? (i := 422) (by decide +kernel), rfl⟩
theorem q_423 : Cond.methodLink RX1 162 yX1_pulledVote ∈ ALL := List.mem_filter.mpr ⟨List.mem_of_getElem? (i := 423) (by decide +kernel), rfl⟩
theorem q_425 : Cond.instanceMethod yX1_pulledVote ∈ ALL := List.mem_filter.mpr ⟨List.mem_of_getElem? (i := 425) (by decide +kernel), rfl⟩
theorem q_426 : Cond.code yX1_pulledVote cX1_pulledVote 4 (some .int) ∈ ALL := List.mem_filter.mpr ⟨List.mem_of_getElem? (i := 426) (by decide +kernel), rfl⟩
theorem q_427 : Cond.methodLink RX1 165 yX1_leadingVote ∈ ALL := List.mem_filter.mpr ⟨List.mem_of_getElem? (i := 427) (by decide +kernel), rfl⟩
theorem q_429 : Cond.instanceMethod yX1_leadingVote ∈ ALL := List.mem_filter.mpr ⟨List.mem_of_getElem? (i := 429) (by decide +kernel), rfl⟩
theorem q_430 : Cond.code yX1_leadingVote cX1_leadingVote 5 (some .int) ∈ ALL := List.mem_filter.mpr ⟨List.mem_of_getElem? (i := 430) (by decide +kernel), rfl⟩
theorem q_431 : Cond.methodLinkNest RX6 138 yX1_hangTogether RX6 ∈ NST := List.mem_filter.mpr ⟨List.mem_of_getElem? (i := 431) (by decide +kernel), rfl⟩
theorem q_433 : Cond.instanceMethod yX1_hangTogether ∈ ALL := List.mem_filter.mpr ⟨List.mem_of_getElem? (i := 433) (by decide +kernel), rfl⟩
theorem q_434 : Cond.code yX1_hangTogether cX1_hangTogether 3 (some .boolean) ∈ ALL := List.mem_filter.mpr ⟨List.mem_of_getElem? (i := 434) (by decide +kernel), rfl⟩
theorem q_435 : Cond.methodLink RL 41 yX6_ifCut ∈ ALL := List.mem_filter.mpr ⟨List.mem_of_getElem? (i := 435) (by decide +kernel), rfl⟩
theorem q_436 : Cond.instanceMethod yX6_ifCut ∈ ALL := List.mem_filter.mpr ⟨List.mem_of_getElem? (i := 436) (by decide +kernel), rfl⟩
theorem q_437 : Cond.selects RX6 yX6_ifCut yX6_ifCut ∈ ALL := List.mem_filter.mpr ⟨List.mem_of_getElem? (i := 437) (by decide +kernel), rfl⟩
theorem q_438 : Cond.code yX6_ifCut cX6_ifCut 3 (some .int) ∈ ALL := List.mem_filter.mpr ⟨List.mem_of_getElem? (i := 438) (by decide +kernel), rfl⟩
theorem q_439 : Cond.methodLink RX6 148 yX6_isIn ∈ ALL := List.mem_filter.mpr ⟨List.mem_of_getElem? (i := 439) (by decide +kernel), rfl⟩
theorem q_440 : Cond.static yX6_isIn ∈ ALL := List.mem_filter.mpr ⟨List.mem_of_getElem? (i := 440) (by decide +kernel), rfl⟩
theorem q_441 : Cond.code yX6_isIn cX6_isIn 3 (some .boolean) ∈ ALL := List.mem_filter.mpr ⟨List.mem_of_getElem? (i := 441) (by decide +kernel), rfl⟩
theorem q_442 : Cond.methodLink RL 44 yX6_book ∈ ALL := List.mem_filter.mpr ⟨List.mem_of_getElem? (i := 442) (by decide +kernel), rfl⟩
theorem q_443 : Cond.instanceMethod yX6_book ∈ ALL := List.mem_filter.mpr ⟨List.mem_of_getElem? (i := 443) (by decide +kernel), rfl⟩
theorem q_444 : Cond.selects RX6 yX6_book yX6_book ∈ ALL := List.mem_filter.mpr ⟨List.mem_of_getElem? (i := 444) (by decide +kernel), rfl⟩
theorem q_445 : Cond.code yX6_book cX6_book 3 (some .int) ∈ ALL := List.mem_filter.mpr ⟨List.mem_of_getElem? (i := 445) (by decide +kernel), rfl⟩
theorem q_446 : Cond.methodLinkNest RX6 161 yX0_entry RX6 ∈ NST := List.mem_filter.mpr ⟨List.mem_of_getElem? (i := 446) (by decide +kernel), rfl⟩
theorem q_448 : Cond.instanceMethod yX0_entry ∈ ALL := List.mem_filter.mpr ⟨List.mem_of_getElem? (i := 448) (by decide +kernel), rfl⟩
theorem q_449 : Cond.code yX0_entry cX0_entry 3 (some .int) ∈ ALL := List.mem_filter.mpr ⟨List.mem_of_getElem? (i := 449) (by decide +kernel), rfl⟩
theorem q_450 : Cond.methodLinkNest RX0 37 yX2_get RX6 ∈ NST := List.mem_filter.mpr ⟨List.mem_of_getElem? (i := 450) (by decide +kernel), rfl⟩
theorem q_451 : Cond.methodLink RL 112 yL_areWhys ∈ ALL := List.mem_filter.mpr ⟨List.mem_of_getElem? (i := 451) (by decide +kernel), rfl⟩
theorem q_452 : Cond.static yL_areWhys ∈ ALL := List.mem_filter.mpr ⟨List.mem_of_getElem? (i := 452) (by decide +kernel), rfl⟩
theorem q_453 : Cond.code yL_areWhys cL_areWhys 9 (some .boolean) ∈ ALL := List.mem_filter.mpr ⟨List.mem_of_getElem? (i := 453) (by decide +kernel), rfl⟩
theorem q_454 : Cond.methodLink RL 47 yX6_whyTie ∈ ALL := List.mem_filter.mpr ⟨List.mem_of_getElem? (i := 454) (by decide +kernel), rfl⟩
theorem q_455 : Cond.instanceMethod yX6_whyTie ∈ ALL := List.mem_filter.mpr ⟨List.mem_of_getElem? (i := 455) (by decide +kernel), rfl⟩
theorem q_456 : Cond.selects RX6 yX6_whyTie yX6_whyTie ∈ ALL := List.mem_filter.mpr ⟨List.mem_of_getElem? (i := 456) (by decide +kernel), rfl⟩
theorem q_457 : Cond.code yX6_whyTie cX6_whyTie 4 (some .int) ∈ ALL := List.mem_filter.mpr ⟨List.mem_of_getElem? (i := 457) (by decide +kernel), rfl⟩
theorem q_458 : Cond.methodLinkNest RX6 164 yX1_arePair RX6 ∈ NST := List.mem_filter.mpr ⟨List.mem_of_getElem? (i := 458) (by decide +kernel), rfl⟩
theorem q_460 : Cond.instanceMethod yX1_arePair ∈ ALL := List.mem_filter.mpr ⟨List.mem_of_getElem? (i := 460) (by decide +kernel), rfl⟩
theorem q_461 : Cond.code yX1_arePair cX1_arePair 3 (some .boolean) ∈ ALL := List.mem_filter.mpr ⟨List.mem_of_getElem? (i := 461) (by decide +kernel), rfl⟩
theorem q_462 : Cond.methodLink RX1 118 yX1_hasPuppet ∈ ALL := List.mem_filter.mpr ⟨List.mem_of_getElem? (i := 462) (by decide +kernel), rfl⟩
theorem q_463 : Cond.methodLinkNest RX6 167 yX1_reasonAgainstString RX6 ∈ NST := List.mem_filter.mpr ⟨List.mem_of_getElem? (i := 463) (by decide +kernel), rfl⟩
theorem q_465 : Cond.instanceMethod yX1_reasonAgainstString ∈ ALL := List.mem_filter.mpr ⟨List.mem_of_getElem? (i := 465) (by decide +kernel), rfl⟩
theorem q_466 : Cond.code yX1_reasonAgainstString cX1_reasonAgainstString 7 (some .int) ∈ ALL := List.mem_filter.mpr ⟨List.mem_of_getElem? (i := 466) (by decide +kernel), rfl⟩
theorem q_467 : Cond.methodLinkNest RX1 168 yX3_areTied RX6 ∈ NST := List.mem_filter.mpr ⟨List.mem_of_getElem? (i := 467) (by decide +kernel), rfl⟩
theorem q_469 : Cond.instanceMethod yX3_areTied ∈ ALL := List.mem_filter.mpr ⟨List.mem_of_getElem? (i := 469) (by decide +kernel), rfl⟩
theorem q_470 : Cond.code yX3_areTied cX3_areTied 6 (some .boolean) ∈ ALL := List.mem_filter.mpr ⟨List.mem_of_getElem? (i := 470) (by decide +kernel), rfl⟩
theorem q_471 : Cond.methodLink RX3 40 yJ9_min_7cf53 ∈ ALL := List.mem_filter.mpr ⟨List.mem_of_getElem? (i := 471) (by decide +kernel), rfl⟩
theorem q_472 : Cond.methodLink RX3 50 yJ9_max_7cf53 ∈ ALL := List.mem_filter.mpr ⟨List.mem_of_getElem? (i := 472) (by decide +kernel), rfl⟩
theorem q_473 : Cond.methodLink RX1 171 yX1_hangTogether ∈ ALL := List.mem_filter.mpr ⟨List.mem_of_getElem? (i := 473) (by decide +kernel), rfl⟩
theorem q_474 : Cond.methodLink RL 51 yX6_whyPull ∈ ALL := List.mem_filter.mpr ⟨List.mem_of_getElem? (i := 474) (by decide +kernel), rfl⟩
theorem q_475 : Cond.instanceMethod yX6_whyPull ∈ ALL := List.mem_filter.mpr ⟨List.mem_of_getElem? (i := 475) (by decide +kernel), rfl⟩
theorem q_476 : Cond.selects RX6 yX6_whyPull yX6_whyPull ∈ ALL := List.mem_filter.mpr ⟨List.mem_of_getElem? (i := 476) (by decide +kernel), rfl⟩
theorem q_477 : Cond.code yX6_whyPull cX6_whyPull 3 (some .int) ∈ ALL := List.mem_filter.mpr ⟨List.mem_of_getElem? (i := 477) (by decide +kernel), rfl⟩
theorem q_478 : Cond.methodLinkNest RX6 171 yX1_reasonAgainstPull RX6 ∈ NST := List.mem_filter.mpr ⟨List.mem_of_getElem? (i := 478) (by decide +kernel), rfl⟩
theorem q_480 : Cond.instanceMethod yX1_reasonAgainstPull ∈ ALL := List.mem_filter.mpr ⟨List.mem_of_getElem? (i := 480) (by decide +kernel), rfl⟩
theorem q_481 : Cond.code yX1_reasonAgainstPull cX1_reasonAgainstPull 6 (some .int) ∈ ALL := List.mem_filter.mpr ⟨List.mem_of_getElem? (i := 481) (by decide +kernel), rfl⟩
theorem q_482 : Cond.methodLink RL 54 yL_whyPull ∈ ALL := List.mem_filter.mpr ⟨List.mem_of_getElem? (i := 482) (by decide +kernel), rfl⟩
theorem q_483 : Cond.static yL_whyPull ∈ ALL := List.mem_filter.mpr ⟨List.mem_of_getElem? (i := 483) (by decide +kernel), rfl⟩
theorem q_484 : Cond.code yL_whyPull cL_whyPull 10 (some .int) ∈ ALL := List.mem_filter.mpr ⟨List.mem_of_getElem? (i := 484) (by decide +kernel), rfl⟩
theorem q_485 : Cond.methodLink RL 15 yL_held ∈ ALL := List.mem_filter.mpr ⟨List.mem_of_getElem? (i := 485) (by decide +kernel), rfl⟩
theorem q_486 : Cond.static yL_held ∈ ALL := List.mem_filter.mpr ⟨List.mem_of_getElem? (i := 486) (by decide +kernel), rfl⟩
theorem q_487 : Cond.code yL_held cL_held 6 (some .int) ∈ ALL := List.mem_filter.mpr ⟨List.mem_of_getElem? (i := 487) (by decide +kernel), rfl⟩
theorem q_488 : Cond.methodLink RL 57 yL_whyTie ∈ ALL := List.mem_filter.mpr ⟨List.mem_of_getElem? (i := 488) (by decide +kernel), rfl⟩
theorem q_489 : Cond.static yL_whyTie ∈ ALL := List.mem_filter.mpr ⟨List.mem_of_getElem? (i := 489) (by decide +kernel), rfl⟩
theorem q_490 : Cond.code yL_whyTie cL_whyTie 10 (some .int) ∈ ALL := List.mem_filter.mpr ⟨List.mem_of_getElem? (i := 490) (by decide +kernel), rfl⟩
theorem q_491 : Cond.methodLink RL 101 yL_isActed ∈ ALL := List.mem_filter.mpr ⟨List.mem_of_getElem? (i := 491) (by decide +kernel), rfl⟩
theorem q_492 : Cond.static yL_isActed ∈ ALL := List.mem_filter.mpr ⟨List.mem_of_getElem? (i := 492) (by decide +kernel), rfl⟩
theorem q_494 : Cond.methodLink RL 65 yX6_puppet ∈ ALL := List.mem_filter.mpr ⟨List.mem_of_getElem? (i := 494) (by decide +kernel), rfl⟩
theorem q_495 : Cond.instanceMethod yX6_puppet ∈ ALL := List.mem_filter.mpr ⟨List.mem_of_getElem? (i := 495) (by decide +kernel), rfl⟩
theorem q_496 : Cond.selects RX6 yX6_puppet yX6_puppet ∈ ALL := List.mem_filter.mpr ⟨List.mem_of_getElem? (i := 496) (by decide +kernel), rfl⟩
theorem q_497 : Cond.code yX6_puppet cX6_puppet 3 (some .int) ∈ ALL := List.mem_filter.mpr ⟨List.mem_of_getElem? (i := 497) (by decide +kernel), rfl⟩
theorem q_498 : Cond.methodLinkNest RX6 41 yX1_addPuppet RX6 ∈ NST := List.mem_filter.mpr ⟨List.mem_of_getElem? (i := 498) (by decide +kernel), rfl⟩
theorem q_500 : Cond.instanceMethod yX1_addPuppet ∈ ALL := List.mem_filter.mpr ⟨List.mem_of_getElem? (i := 500) (by decide +kernel), rfl⟩
theorem q_501 : Cond.code yX1_addPuppet cX1_addPuppet 3 (some .int) ∈ ALL := List.mem_filter.mpr ⟨List.mem_of_getElem? (i := 501) (by decide +kernel), rfl⟩
theorem q_502 : Cond.methodLinkNest RX1 75 yX6_isIn RX6 ∈ NST := List.mem_filter.mpr ⟨List.mem_of_getElem? (i := 502) (by decide +kernel), rfl⟩
theorem q_503 : Cond.constant RX1 80 (-1000003) ∈ ALL := List.mem_filter.mpr ⟨List.mem_of_getElem? (i := 503) (by decide +kernel), rfl⟩
theorem q_504 : Cond.methodLink RX6 45 yX6_settle ∈ ALL := List.mem_filter.mpr ⟨List.mem_of_getElem? (i := 504) (by decide +kernel), rfl⟩
theorem q_506 : Cond.instanceMethod yX6_settle ∈ ALL := List.mem_filter.mpr ⟨List.mem_of_getElem? (i := 506) (by decide +kernel), rfl⟩
theorem q_507 : Cond.code yX6_settle cX6_settle 2 (some .int) ∈ ALL := List.mem_filter.mpr ⟨List.mem_of_getElem? (i := 507) (by decide +kernel), rfl⟩
theorem q_508 : Cond.methodLink RX6 279 yX6_isError ∈ ALL := List.mem_filter.mpr ⟨List.mem_of_getElem? (i := 508) (by decide +kernel), rfl⟩
theorem q_509 : Cond.static yX6_isError ∈ ALL := List.mem_filter.mpr ⟨List.mem_of_getElem? (i := 509) (by decide +kernel), rfl⟩
theorem q_510 : Cond.code yX6_isError cX6_isError 1 (some .boolean) ∈ ALL := List.mem_filter.mpr ⟨List.mem_of_getElem? (i := 510) (by decide +kernel), rfl⟩
theorem q_511 : Cond.methodLink RX6 288 yX6_remember ∈ ALL := List.mem_filter.mpr ⟨List.mem_of_getElem? (i := 511) (by decide +kernel), rfl⟩
theorem q_513 : Cond.instanceMethod yX6_remember ∈ ALL := List.mem_filter.mpr ⟨List.mem_of_getElem? (i := 513) (by decide +kernel), rfl⟩
theorem q_514 : Cond.code yX6_remember cX6_remember 2 none ∈ ALL := List.mem_filter.mpr ⟨List.mem_of_getElem? (i := 514) (by decide +kernel), rfl⟩
theorem q_515 : Cond.methodLink RX6 243 yX6_pastState ∈ ALL := List.mem_filter.mpr ⟨List.mem_of_getElem? (i := 515) (by decide +kernel), rfl⟩
theorem q_517 : Cond.instanceMethod yX6_pastState ∈ ALL := List.mem_filter.mpr ⟨List.mem_of_getElem? (i := 517) (by decide +kernel), rfl⟩
theorem q_518 : Cond.code yX6_pastState cX6_pastState 3 (some (.object "StringVotes$Parliament")) ∈ ALL := List.mem_filter.mpr ⟨List.mem_of_getElem? (i := 518) (by decide +kernel), rfl⟩
theorem q_519 : Cond.constant RL 68 (-1000003) ∈ ALL := List.mem_filter.mpr ⟨List.mem_of_getElem? (i := 519) (by decide +kernel), rfl⟩
theorem q_520 : Cond.methodLink RL 69 yX6_tie ∈ ALL := List.mem_filter.mpr ⟨List.mem_of_getElem? (i := 520) (by decide +kernel), rfl⟩
theorem q_521 : Cond.instanceMethod yX6_tie ∈ ALL := List.mem_filter.mpr ⟨List.mem_of_getElem? (i := 521) (by decide +kernel), rfl⟩
theorem q_522 : Cond.selects RX6 yX6_tie yX6_tie ∈ ALL := List.mem_filter.mpr ⟨List.mem_of_getElem? (i := 522) (by decide +kernel), rfl⟩
theorem q_523 : Cond.code yX6_tie cX6_tie 5 (some .int) ∈ ALL := List.mem_filter.mpr ⟨List.mem_of_getElem? (i := 523) (by decide +kernel), rfl⟩
theorem q_524 : Cond.methodLinkNest RX6 49 yX1_addString RX6 ∈ NST := List.mem_filter.mpr ⟨List.mem_of_getElem? (i := 524) (by decide +kernel), rfl⟩
theorem q_526 : Cond.instanceMethod yX1_addString ∈ ALL := List.mem_filter.mpr ⟨List.mem_of_getElem? (i := 526) (by decide +kernel), rfl⟩
theorem q_527 : Cond.code yX1_addString cX1_addString 6 (some .int) ∈ ALL := List.mem_filter.mpr ⟨List.mem_of_getElem? (i := 527) (by decide +kernel), rfl⟩
theorem q_528 : Cond.methodLink RX1 91 yX1_arePair ∈ ALL := List.mem_filter.mpr ⟨List.mem_of_getElem? (i := 528) (by decide +kernel), rfl⟩
theorem q_529 : Cond.methodLink RX1 95 yX1_reasonAgainstString ∈ ALL := List.mem_filter.mpr ⟨List.mem_of_getElem? (i := 529) (by decide +kernel), rfl⟩
theorem q_530 : Cond.constant RX1 99 (-1000002) ∈ ALL := List.mem_filter.mpr ⟨List.mem_of_getElem? (i := 530) (by decide +kernel), rfl⟩
theorem q_531 : Cond.methodLinkNest RX1 103 yX3_append RX6 ∈ NST := List.mem_filter.mpr ⟨List.mem_of_getElem? (i := 531) (by decide +kernel), rfl⟩
theorem q_533 : Cond.instanceMethod yX3_append ∈ ALL := List.mem_filter.mpr ⟨List.mem_of_getElem? (i := 533) (by decide +kernel), rfl⟩
theorem q_534 : Cond.code yX3_append cX3_append 5 (some .int) ∈ ALL := List.mem_filter.mpr ⟨List.mem_of_getElem? (i := 534) (by decide +kernel), rfl⟩
theorem q_535 : Cond.methodLinkNest RX3 46 yX2_put RX6 ∈ NST := List.mem_filter.mpr ⟨List.mem_of_getElem? (i := 535) (by decide +kernel), rfl⟩
theorem q_536 : Cond.constant RL 64 (-1000002) ∈ ALL := List.mem_filter.mpr ⟨List.mem_of_getElem? (i := 536) (by decide +kernel), rfl⟩
theorem q_537 : Cond.methodLink RL 73 yL_drop ∈ ALL := List.mem_filter.mpr ⟨List.mem_of_getElem? (i := 537) (by decide +kernel), rfl⟩
theorem q_538 : Cond.static yL_drop ∈ ALL := List.mem_filter.mpr ⟨List.mem_of_getElem? (i := 538) (by decide +kernel), rfl⟩
theorem q_539 : Cond.code yL_drop cL_drop 4 none ∈ ALL := List.mem_filter.mpr ⟨List.mem_of_getElem? (i := 539) (by decide +kernel), rfl⟩
theorem q_540 : Cond.methodLink RL 77 yX6_cut ∈ ALL := List.mem_filter.mpr ⟨List.mem_of_getElem? (i := 540) (by decide +kernel), rfl⟩
theorem q_541 : Cond.instanceMethod yX6_cut ∈ ALL := List.mem_filter.mpr ⟨List.mem_of_getElem? (i := 541) (by decide +kernel), rfl⟩
theorem q_542 : Cond.selects RX6 yX6_cut yX6_cut ∈ ALL := List.mem_filter.mpr ⟨List.mem_of_getElem? (i := 542) (by decide +kernel), rfl⟩
theorem q_543 : Cond.code yX6_cut cX6_cut 2 (some .int) ∈ ALL := List.mem_filter.mpr ⟨List.mem_of_getElem? (i := 543) (by decide +kernel), rfl⟩
theorem q_544 : Cond.methodLink RL 80 yX6_cutDeal ∈ ALL := List.mem_filter.mpr ⟨List.mem_of_getElem? (i := 544) (by decide +kernel), rfl⟩
theorem q_545 : Cond.instanceMethod yX6_cutDeal ∈ ALL := List.mem_filter.mpr ⟨List.mem_of_getElem? (i := 545) (by decide +kernel), rfl⟩
theorem q_546 : Cond.selects RX6 yX6_cutDeal yX6_cutDeal ∈ ALL := List.mem_filter.mpr ⟨List.mem_of_getElem? (i := 546) (by decide +kernel), rfl⟩
theorem q_547 : Cond.code yX6_cutDeal cX6_cutDeal 2 (some .int) ∈ ALL := List.mem_filter.mpr ⟨List.mem_of_getElem? (i := 547) (by decide +kernel), rfl⟩
theorem q_548 : Cond.methodLinkNest RX6 56 yX1_cutStringsOf RX6 ∈ NST := List.mem_filter.mpr ⟨List.mem_of_getElem? (i := 548) (by decide +kernel), rfl⟩
theorem q_550 : Cond.instanceMethod yX1_cutStringsOf ∈ ALL := List.mem_filter.mpr ⟨List.mem_of_getElem? (i := 550) (by decide +kernel), rfl⟩
theorem q_551 : Cond.code yX1_cutStringsOf cX1_cutStringsOf 3 (some .int) ∈ ALL := List.mem_filter.mpr ⟨List.mem_of_getElem? (i := 551) (by decide +kernel), rfl⟩
theorem q_552 : Cond.methodLinkNest RX1 114 yX3_removeAllOf RX6 ∈ NST := List.mem_filter.mpr ⟨List.mem_of_getElem? (i := 552) (by decide +kernel), rfl⟩
theorem q_554 : Cond.instanceMethod yX3_removeAllOf ∈ ALL := List.mem_filter.mpr ⟨List.mem_of_getElem? (i := 554) (by decide +kernel), rfl⟩
theorem q_555 : Cond.code yX3_removeAllOf cX3_removeAllOf 4 (some .int) ∈ ALL := List.mem_filter.mpr ⟨List.mem_of_getElem? (i := 555) (by decide +kernel), rfl⟩
theorem q_556 : Cond.methodLink RX3 60 yX3_removeAt ∈ ALL := List.mem_filter.mpr ⟨List.mem_of_getElem? (i := 556) (by decide +kernel), rfl⟩
theorem q_557 : Cond.methodLink RL 83 yX6_pull ∈ ALL := List.mem_filter.mpr ⟨List.mem_of_getElem? (i := 557) (by decide +kernel), rfl⟩
theorem q_558 : Cond.instanceMethod yX6_pull ∈ ALL := List.mem_filter.mpr ⟨List.mem_of_getElem? (i := 558) (by decide +kernel), rfl⟩
theorem q_559 : Cond.selects RX6 yX6_pull yX6_pull ∈ ALL := List.mem_filter.mpr ⟨List.mem_of_getElem? (i := 559) (by decide +kernel), rfl⟩
theorem q_560 : Cond.code yX6_pull cX6_pull 3 (some .int) ∈ ALL := List.mem_filter.mpr ⟨List.mem_of_getElem? (i := 560) (by decide +kernel), rfl⟩
theorem q_561 : Cond.methodLinkNest RX6 59 yX1_pullTo RX6 ∈ NST := List.mem_filter.mpr ⟨List.mem_of_getElem? (i := 561) (by decide +kernel), rfl⟩
theorem q_563 : Cond.instanceMethod yX1_pullTo ∈ ALL := List.mem_filter.mpr ⟨List.mem_of_getElem? (i := 563) (by decide +kernel), rfl⟩
theorem q_564 : Cond.code yX1_pullTo cX1_pullTo 3 (some .int) ∈ ALL := List.mem_filter.mpr ⟨List.mem_of_getElem? (i := 564) (by decide +kernel), rfl⟩
theorem q_565 : Cond.methodLink RX1 121 yX1_reasonAgainstPull ∈ ALL := List.mem_filter.mpr ⟨List.mem_of_getElem? (i := 565) (by decide +kernel), rfl⟩
theorem q_566 : Cond.methodLink RL 86 yX6_release ∈ ALL := List.mem_filter.mpr ⟨List.mem_of_getElem? (i := 566) (by decide +kernel), rfl⟩
theorem q_567 : Cond.instanceMethod yX6_release ∈ ALL := List.mem_filter.mpr ⟨List.mem_of_getElem? (i := 567) (by decide +kernel), rfl⟩
theorem q_568 : Cond.selects RX6 yX6_release yX6_release ∈ ALL := List.mem_filter.mpr ⟨List.mem_of_getElem? (i := 568) (by decide +kernel), rfl⟩
theorem q_569 : Cond.code yX6_release cX6_release 2 (some .int) ∈ ALL := List.mem_filter.mpr ⟨List.mem_of_getElem? (i := 569) (by decide +kernel), rfl⟩
theorem q_570 : Cond.methodLinkNest RX6 62 yX1_letGo RX6 ∈ NST := List.mem_filter.mpr ⟨List.mem_of_getElem? (i := 570) (by decide +kernel), rfl⟩
theorem q_572 : Cond.instanceMethod yX1_letGo ∈ ALL := List.mem_filter.mpr ⟨List.mem_of_getElem? (i := 572) (by decide +kernel), rfl⟩
theorem q_573 : Cond.code yX1_letGo cX1_letGo 3 (some .int) ∈ ALL := List.mem_filter.mpr ⟨List.mem_of_getElem? (i := 573) (by decide +kernel), rfl⟩
theorem q_574 : Cond.methodLink RL 89 yX6_set ∈ ALL := List.mem_filter.mpr ⟨List.mem_of_getElem? (i := 574) (by decide +kernel), rfl⟩
theorem q_575 : Cond.instanceMethod yX6_set ∈ ALL := List.mem_filter.mpr ⟨List.mem_of_getElem? (i := 575) (by decide +kernel), rfl⟩
theorem q_576 : Cond.selects RX6 yX6_set yX6_set ∈ ALL := List.mem_filter.mpr ⟨List.mem_of_getElem? (i := 576) (by decide +kernel), rfl⟩
theorem q_577 : Cond.code yX6_set cX6_set 3 (some .int) ∈ ALL := List.mem_filter.mpr ⟨List.mem_of_getElem? (i := 577) (by decide +kernel), rfl⟩
theorem q_578 : Cond.methodLinkNest RX6 70 yX1_bindPulls RX6 ∈ NST := List.mem_filter.mpr ⟨List.mem_of_getElem? (i := 578) (by decide +kernel), rfl⟩
theorem q_580 : Cond.instanceMethod yX1_bindPulls ∈ ALL := List.mem_filter.mpr ⟨List.mem_of_getElem? (i := 580) (by decide +kernel), rfl⟩
theorem q_581 : Cond.code yX1_bindPulls cX1_bindPulls 3 (some .int) ∈ ALL := List.mem_filter.mpr ⟨List.mem_of_getElem? (i := 581) (by decide +kernel), rfl⟩
theorem q_582 : Cond.methodLink RL 92 yL_isSession ∈ ALL := List.mem_filter.mpr ⟨List.mem_of_getElem? (i := 582) (by decide +kernel), rfl⟩
theorem q_583 : Cond.static yL_isSession ∈ ALL := List.mem_filter.mpr ⟨List.mem_of_getElem? (i := 583) (by decide +kernel), rfl⟩
theorem q_584 : Cond.code yL_isSession cL_isSession 10 (some .boolean) ∈ ALL := List.mem_filter.mpr ⟨List.mem_of_getElem? (i := 584) (by decide +kernel), rfl⟩
theorem q_585 : Cond.methodLink RL 60 yX6_session ∈ ALL := List.mem_filter.mpr ⟨List.mem_of_getElem? (i := 585) (by decide +kernel), rfl⟩
theorem q_586 : Cond.instanceMethod yX6_session ∈ ALL := List.mem_filter.mpr ⟨List.mem_of_getElem? (i := 586) (by decide +kernel), rfl⟩
theorem q_587 : Cond.selects RX6 yX6_session yX6_session ∈ ALL := List.mem_filter.mpr ⟨List.mem_of_getElem? (i := 587) (by decide +kernel), rfl⟩
theorem q_588 : Cond.code yX6_session cX6_session 1 (some .int) ∈ ALL := List.mem_filter.mpr ⟨List.mem_of_getElem? (i := 588) (by decide +kernel), rfl⟩
theorem q_589 : Cond.methodLinkNest RX6 65 yX1_holdSession RX6 ∈ NST := List.mem_filter.mpr ⟨List.mem_of_getElem? (i := 589) (by decide +kernel), rfl⟩
theorem q_591 : Cond.instanceMethod yX1_holdSession ∈ ALL := List.mem_filter.mpr ⟨List.mem_of_getElem? (i := 591) (by decide +kernel), rfl⟩
theorem q_592 : Cond.code yX1_holdSession cX1_holdSession 3 (some .int) ∈ ALL := List.mem_filter.mpr ⟨List.mem_of_getElem? (i := 592) (by decide +kernel), rfl⟩
theorem q_593 : Cond.methodLink RX1 134 yX1_wouldPass ∈ ALL := List.mem_filter.mpr ⟨List.mem_of_getElem? (i := 593) (by decide +kernel), rfl⟩
theorem q_594 : Cond.methodLinkNest RX1 138 yX0_enter RX6 ∈ NST := List.mem_filter.mpr ⟨List.mem_of_getElem? (i := 594) (by decide +kernel), rfl⟩
theorem q_596 : Cond.instanceMethod yX0_enter ∈ ALL := List.mem_filter.mpr ⟨List.mem_of_getElem? (i := 596) (by decide +kernel), rfl⟩
theorem q_597 : Cond.code yX0_enter cX0_enter 6 none ∈ ALL := List.mem_filter.mpr ⟨List.mem_of_getElem? (i := 597) (by decide +kernel), rfl⟩
theorem q_598 : Cond.methodLinkNest RX0 41 yX2_put RX6 ∈ NST := List.mem_filter.mpr ⟨List.mem_of_getElem? (i := 598) (by decide +kernel), rfl⟩
theorem q_599 : Cond.constant RL 8 (2147483647) ∈ ALL := List.mem_filter.mpr ⟨List.mem_of_getElem? (i := 599) (by decide +kernel), rfl⟩
theorem uw_X0 : ∀ w ∈ u_ws RX0 TX0 3, w ∈ ALL := by decide +kernel
theorem uw_X1 : ∀ w ∈ u_ws RX1 TX1 13, w ∈ ALL := by decide +kernel
theorem uw_X2 : ∀ w ∈ u_ws RX2 TX2 1, w ∈ ALL := by decide +kernel
theorem uw_X3 : ∀ w ∈ u_ws RX3 TX3 6, w ∈ ALL := by decide +kernel
theorem uw_X4 : ∀ w ∈ u_ws RX4 TX4 5, w ∈ ALL := by decide +kernel
theorem uw_X5 : ∀ w ∈ u_ws RX5 TX5 3, w ∈ ALL := by decide +kernel
theorem uw_X6 : ∀ w ∈ u_ws RX6 TX6 11, w ∈ ALL := by decide +kernel
