-- ===== PART A: goes FIRST, ahead of the names: the tables' words, and 'selects' of the private methods out of them =====
/-- a private method of a class that the tables say can be made, by its rows of tables_1 -/
def lw_okq (q : MethodName × Nat) : Prop := (q.1.cls ≠ "java/lang/invoke/MethodHandle" ∧ q.1.cls ≠ "java/lang/invoke/VarHandle") ∧ Cond.instantiable q.1.cls q.2 ∈ tables_1 ∧ Cond.privateMethod q.1 ∈ tables_1 ∧ Cond.instanceMethod q.1 ∈ tables_1
theorem lw_p0 : lw_okq (⟨"StringVotes$Parliament", "copyFrom", "(LStringVotes$Parliament;)V"⟩, 13) := ⟨⟨by decide +kernel, by decide +kernel⟩, List.mem_of_getElem? (i := 22) (by decide +kernel), List.mem_of_getElem? (i := 241) (by decide +kernel), List.mem_of_getElem? (i := 242) (by decide +kernel)⟩
theorem lw_p1 : lw_okq (⟨"StringVotes$Row", "copyFrom", "(LStringVotes$Row;)V"⟩, 1) := ⟨⟨by decide +kernel, by decide +kernel⟩, List.mem_of_getElem? (i := 28) (by decide +kernel), List.mem_of_getElem? (i := 245) (by decide +kernel), List.mem_of_getElem? (i := 246) (by decide +kernel)⟩
theorem lw_p2 : lw_okq (⟨"StringVotes$Strings", "copyFrom", "(LStringVotes$Strings;)V"⟩, 6) := ⟨⟨by decide +kernel, by decide +kernel⟩, List.mem_of_getElem? (i := 42) (by decide +kernel), List.mem_of_getElem? (i := 255) (by decide +kernel), List.mem_of_getElem? (i := 256) (by decide +kernel)⟩
theorem lw_p3 : lw_okq (⟨"StringVotes$Book", "copyFrom", "(LStringVotes$Book;)V"⟩, 3) := ⟨⟨by decide +kernel, by decide +kernel⟩, List.mem_of_getElem? (i := 79) (by decide +kernel), List.mem_of_getElem? (i := 260) (by decide +kernel), List.mem_of_getElem? (i := 261) (by decide +kernel)⟩
theorem lw_p4 : lw_okq (⟨"StringVotes$Parliament", "addPuppet", "(II)I"⟩, 13) := ⟨⟨by decide +kernel, by decide +kernel⟩, List.mem_of_getElem? (i := 22) (by decide +kernel), List.mem_of_getElem? (i := 265) (by decide +kernel), List.mem_of_getElem? (i := 266) (by decide +kernel)⟩
theorem lw_p5 : lw_okq (⟨"StringVotes$Row", "put", "(II)V"⟩, 1) := ⟨⟨by decide +kernel, by decide +kernel⟩, List.mem_of_getElem? (i := 28) (by decide +kernel), List.mem_of_getElem? (i := 274) (by decide +kernel), List.mem_of_getElem? (i := 275) (by decide +kernel)⟩
theorem lw_p6 : lw_okq (⟨"StringVotes$Parliament", "tellGroups", "()V"⟩, 13) := ⟨⟨by decide +kernel, by decide +kernel⟩, List.mem_of_getElem? (i := 22) (by decide +kernel), List.mem_of_getElem? (i := 278) (by decide +kernel), List.mem_of_getElem? (i := 279) (by decide +kernel)⟩
theorem lw_p7 : lw_okq (⟨"StringVotes$Parliament", "joinBy", "(I)V"⟩, 13) := ⟨⟨by decide +kernel, by decide +kernel⟩, List.mem_of_getElem? (i := 22) (by decide +kernel), List.mem_of_getElem? (i := 282) (by decide +kernel), List.mem_of_getElem? (i := 283) (by decide +kernel)⟩
theorem lw_p8 : lw_okq (⟨"StringVotes$Row", "get", "(I)I"⟩, 1) := ⟨⟨by decide +kernel, by decide +kernel⟩, List.mem_of_getElem? (i := 28) (by decide +kernel), List.mem_of_getElem? (i := 286) (by decide +kernel), List.mem_of_getElem? (i := 287) (by decide +kernel)⟩
theorem lw_p9 : lw_okq (⟨"StringVotes$Parliament", "tellVotes", "()V"⟩, 13) := ⟨⟨by decide +kernel, by decide +kernel⟩, List.mem_of_getElem? (i := 22) (by decide +kernel), List.mem_of_getElem? (i := 292) (by decide +kernel), List.mem_of_getElem? (i := 293) (by decide +kernel)⟩
theorem lw_p10 : lw_okq (⟨"StringVotes$Parliament", "pulledVote", "(I)I"⟩, 13) := ⟨⟨by decide +kernel, by decide +kernel⟩, List.mem_of_getElem? (i := 22) (by decide +kernel), List.mem_of_getElem? (i := 296) (by decide +kernel), List.mem_of_getElem? (i := 297) (by decide +kernel)⟩
theorem lw_p11 : lw_okq (⟨"StringVotes$Parliament", "leadingVote", "(I)I"⟩, 13) := ⟨⟨by decide +kernel, by decide +kernel⟩, List.mem_of_getElem? (i := 22) (by decide +kernel), List.mem_of_getElem? (i := 300) (by decide +kernel), List.mem_of_getElem? (i := 301) (by decide +kernel)⟩
theorem lw_p12 : lw_okq (⟨"StringVotes", "settle", "(I)I"⟩, 11) := ⟨⟨by decide +kernel, by decide +kernel⟩, List.mem_of_getElem? (i := 14) (by decide +kernel), List.mem_of_getElem? (i := 304) (by decide +kernel), List.mem_of_getElem? (i := 305) (by decide +kernel)⟩
theorem lw_p13 : lw_okq (⟨"StringVotes", "remember", "()V"⟩, 11) := ⟨⟨by decide +kernel, by decide +kernel⟩, List.mem_of_getElem? (i := 14) (by decide +kernel), List.mem_of_getElem? (i := 311) (by decide +kernel), List.mem_of_getElem? (i := 312) (by decide +kernel)⟩
theorem lw_p14 : lw_okq (⟨"StringVotes", "pastState", "(I)LStringVotes$Parliament;"⟩, 11) := ⟨⟨by decide +kernel, by decide +kernel⟩, List.mem_of_getElem? (i := 14) (by decide +kernel), List.mem_of_getElem? (i := 315) (by decide +kernel), List.mem_of_getElem? (i := 316) (by decide +kernel)⟩
theorem lw_p15 : lw_okq (⟨"StringVotes$Parliament", "addString", "(IIII)I"⟩, 13) := ⟨⟨by decide +kernel, by decide +kernel⟩, List.mem_of_getElem? (i := 22) (by decide +kernel), List.mem_of_getElem? (i := 323) (by decide +kernel), List.mem_of_getElem? (i := 324) (by decide +kernel)⟩
def lw_privs_1 : List (MethodName × Nat) := [(⟨"StringVotes$Parliament", "copyFrom", "(LStringVotes$Parliament;)V"⟩, 13), (⟨"StringVotes$Row", "copyFrom", "(LStringVotes$Row;)V"⟩, 1), (⟨"StringVotes$Strings", "copyFrom", "(LStringVotes$Strings;)V"⟩, 6), (⟨"StringVotes$Book", "copyFrom", "(LStringVotes$Book;)V"⟩, 3), (⟨"StringVotes$Parliament", "addPuppet", "(II)I"⟩, 13), (⟨"StringVotes$Row", "put", "(II)V"⟩, 1), (⟨"StringVotes$Parliament", "tellGroups", "()V"⟩, 13), (⟨"StringVotes$Parliament", "joinBy", "(I)V"⟩, 13), (⟨"StringVotes$Row", "get", "(I)I"⟩, 1), (⟨"StringVotes$Parliament", "tellVotes", "()V"⟩, 13), (⟨"StringVotes$Parliament", "pulledVote", "(I)I"⟩, 13), (⟨"StringVotes$Parliament", "leadingVote", "(I)I"⟩, 13), (⟨"StringVotes", "settle", "(I)I"⟩, 11), (⟨"StringVotes", "remember", "()V"⟩, 11), (⟨"StringVotes", "pastState", "(I)LStringVotes$Parliament;"⟩, 11), (⟨"StringVotes$Parliament", "addString", "(IIII)I"⟩, 13)]
theorem lw_r1 : ∀ q ∈ lw_privs_1, lw_okq q := List.forall_mem_cons.mpr ⟨lw_p0, List.forall_mem_cons.mpr ⟨lw_p1, List.forall_mem_cons.mpr ⟨lw_p2, List.forall_mem_cons.mpr ⟨lw_p3, List.forall_mem_cons.mpr ⟨lw_p4, List.forall_mem_cons.mpr ⟨lw_p5, List.forall_mem_cons.mpr ⟨lw_p6, List.forall_mem_cons.mpr ⟨lw_p7, List.forall_mem_cons.mpr ⟨lw_p8, List.forall_mem_cons.mpr ⟨lw_p9, List.forall_mem_cons.mpr ⟨lw_p10, List.forall_mem_cons.mpr ⟨lw_p11, List.forall_mem_cons.mpr ⟨lw_p12, List.forall_mem_cons.mpr ⟨lw_p13, List.forall_mem_cons.mpr ⟨lw_p14, List.forall_mem_cons.mpr ⟨lw_p15, fun _ h => absurd h List.not_mem_nil⟩⟩⟩⟩⟩⟩⟩⟩⟩⟩⟩⟩⟩⟩⟩⟩
theorem lw_p16 : lw_okq (⟨"StringVotes$Parliament", "arePair", "(II)Z"⟩, 13) := ⟨⟨by decide +kernel, by decide +kernel⟩, List.mem_of_getElem? (i := 22) (by decide +kernel), List.mem_of_getElem? (i := 327) (by decide +kernel), List.mem_of_getElem? (i := 328) (by decide +kernel)⟩
theorem lw_p17 : lw_okq (⟨"StringVotes$Parliament", "hasPuppet", "(I)Z"⟩, 13) := ⟨⟨by decide +kernel, by decide +kernel⟩, List.mem_of_getElem? (i := 22) (by decide +kernel), List.mem_of_getElem? (i := 331) (by decide +kernel), List.mem_of_getElem? (i := 332) (by decide +kernel)⟩
theorem lw_p18 : lw_okq (⟨"StringVotes$Parliament", "reasonAgainstString", "(III)I"⟩, 13) := ⟨⟨by decide +kernel, by decide +kernel⟩, List.mem_of_getElem? (i := 22) (by decide +kernel), List.mem_of_getElem? (i := 335) (by decide +kernel), List.mem_of_getElem? (i := 336) (by decide +kernel)⟩
theorem lw_p19 : lw_okq (⟨"StringVotes$Strings", "areTied", "(II)Z"⟩, 6) := ⟨⟨by decide +kernel, by decide +kernel⟩, List.mem_of_getElem? (i := 42) (by decide +kernel), List.mem_of_getElem? (i := 339) (by decide +kernel), List.mem_of_getElem? (i := 340) (by decide +kernel)⟩
theorem lw_p20 : lw_okq (⟨"StringVotes$Parliament", "hangTogether", "(II)Z"⟩, 13) := ⟨⟨by decide +kernel, by decide +kernel⟩, List.mem_of_getElem? (i := 22) (by decide +kernel), List.mem_of_getElem? (i := 346) (by decide +kernel), List.mem_of_getElem? (i := 347) (by decide +kernel)⟩
theorem lw_p21 : lw_okq (⟨"StringVotes$Strings", "append", "(IIII)I"⟩, 6) := ⟨⟨by decide +kernel, by decide +kernel⟩, List.mem_of_getElem? (i := 42) (by decide +kernel), List.mem_of_getElem? (i := 351) (by decide +kernel), List.mem_of_getElem? (i := 352) (by decide +kernel)⟩
theorem lw_p22 : lw_okq (⟨"StringVotes$Parliament", "cutString", "(I)I"⟩, 13) := ⟨⟨by decide +kernel, by decide +kernel⟩, List.mem_of_getElem? (i := 22) (by decide +kernel), List.mem_of_getElem? (i := 360) (by decide +kernel), List.mem_of_getElem? (i := 361) (by decide +kernel)⟩
theorem lw_p23 : lw_okq (⟨"StringVotes$Strings", "has", "(I)Z"⟩, 6) := ⟨⟨by decide +kernel, by decide +kernel⟩, List.mem_of_getElem? (i := 42) (by decide +kernel), List.mem_of_getElem? (i := 364) (by decide +kernel), List.mem_of_getElem? (i := 365) (by decide +kernel)⟩
theorem lw_p24 : lw_okq (⟨"StringVotes$Strings", "removeAt", "(I)V"⟩, 6) := ⟨⟨by decide +kernel, by decide +kernel⟩, List.mem_of_getElem? (i := 42) (by decide +kernel), List.mem_of_getElem? (i := 368) (by decide +kernel), List.mem_of_getElem? (i := 369) (by decide +kernel)⟩
theorem lw_p25 : lw_okq (⟨"StringVotes$Row", "removeAt", "(I)V"⟩, 1) := ⟨⟨by decide +kernel, by decide +kernel⟩, List.mem_of_getElem? (i := 28) (by decide +kernel), List.mem_of_getElem? (i := 372) (by decide +kernel), List.mem_of_getElem? (i := 373) (by decide +kernel)⟩
theorem lw_p26 : lw_okq (⟨"StringVotes$Parliament", "cutStringsOf", "(I)I"⟩, 13) := ⟨⟨by decide +kernel, by decide +kernel⟩, List.mem_of_getElem? (i := 22) (by decide +kernel), List.mem_of_getElem? (i := 380) (by decide +kernel), List.mem_of_getElem? (i := 381) (by decide +kernel)⟩
theorem lw_p27 : lw_okq (⟨"StringVotes$Strings", "removeAllOf", "(I)I"⟩, 6) := ⟨⟨by decide +kernel, by decide +kernel⟩, List.mem_of_getElem? (i := 42) (by decide +kernel), List.mem_of_getElem? (i := 384) (by decide +kernel), List.mem_of_getElem? (i := 385) (by decide +kernel)⟩
theorem lw_p28 : lw_okq (⟨"StringVotes$Parliament", "pullTo", "(II)I"⟩, 13) := ⟨⟨by decide +kernel, by decide +kernel⟩, List.mem_of_getElem? (i := 22) (by decide +kernel), List.mem_of_getElem? (i := 393) (by decide +kernel), List.mem_of_getElem? (i := 394) (by decide +kernel)⟩
theorem lw_p29 : lw_okq (⟨"StringVotes$Parliament", "reasonAgainstPull", "(II)I"⟩, 13) := ⟨⟨by decide +kernel, by decide +kernel⟩, List.mem_of_getElem? (i := 22) (by decide +kernel), List.mem_of_getElem? (i := 397) (by decide +kernel), List.mem_of_getElem? (i := 398) (by decide +kernel)⟩
theorem lw_p30 : lw_okq (⟨"StringVotes$Parliament", "isPulled", "(I)Z"⟩, 13) := ⟨⟨by decide +kernel, by decide +kernel⟩, List.mem_of_getElem? (i := 22) (by decide +kernel), List.mem_of_getElem? (i := 401) (by decide +kernel), List.mem_of_getElem? (i := 402) (by decide +kernel)⟩
theorem lw_p31 : lw_okq (⟨"StringVotes$Parliament", "letGo", "(I)I"⟩, 13) := ⟨⟨by decide +kernel, by decide +kernel⟩, List.mem_of_getElem? (i := 22) (by decide +kernel), List.mem_of_getElem? (i := 409) (by decide +kernel), List.mem_of_getElem? (i := 410) (by decide +kernel)⟩
def lw_privs_2 : List (MethodName × Nat) := [(⟨"StringVotes$Parliament", "arePair", "(II)Z"⟩, 13), (⟨"StringVotes$Parliament", "hasPuppet", "(I)Z"⟩, 13), (⟨"StringVotes$Parliament", "reasonAgainstString", "(III)I"⟩, 13), (⟨"StringVotes$Strings", "areTied", "(II)Z"⟩, 6), (⟨"StringVotes$Parliament", "hangTogether", "(II)Z"⟩, 13), (⟨"StringVotes$Strings", "append", "(IIII)I"⟩, 6), (⟨"StringVotes$Parliament", "cutString", "(I)I"⟩, 13), (⟨"StringVotes$Strings", "has", "(I)Z"⟩, 6), (⟨"StringVotes$Strings", "removeAt", "(I)V"⟩, 6), (⟨"StringVotes$Row", "removeAt", "(I)V"⟩, 1), (⟨"StringVotes$Parliament", "cutStringsOf", "(I)I"⟩, 13), (⟨"StringVotes$Strings", "removeAllOf", "(I)I"⟩, 6), (⟨"StringVotes$Parliament", "pullTo", "(II)I"⟩, 13), (⟨"StringVotes$Parliament", "reasonAgainstPull", "(II)I"⟩, 13), (⟨"StringVotes$Parliament", "isPulled", "(I)Z"⟩, 13), (⟨"StringVotes$Parliament", "letGo", "(I)I"⟩, 13)]
theorem lw_r2 : ∀ q ∈ lw_privs_2, lw_okq q := List.forall_mem_cons.mpr ⟨lw_p16, List.forall_mem_cons.mpr ⟨lw_p17, List.forall_mem_cons.mpr ⟨lw_p18, List.forall_mem_cons.mpr ⟨lw_p19, List.forall_mem_cons.mpr ⟨lw_p20, List.forall_mem_cons.mpr ⟨lw_p21, List.forall_mem_cons.mpr ⟨lw_p22, List.forall_mem_cons.mpr ⟨lw_p23, List.forall_mem_cons.mpr ⟨lw_p24, List.forall_mem_cons.mpr ⟨lw_p25, List.forall_mem_cons.mpr ⟨lw_p26, List.forall_mem_cons.mpr ⟨lw_p27, List.forall_mem_cons.mpr ⟨lw_p28, List.forall_mem_cons.mpr ⟨lw_p29, List.forall_mem_cons.mpr ⟨lw_p30, List.forall_mem_cons.mpr ⟨lw_p31, fun _ h => absurd h List.not_mem_nil⟩⟩⟩⟩⟩⟩⟩⟩⟩⟩⟩⟩⟩⟩⟩⟩
theorem lw_p32 : lw_okq (⟨"StringVotes$Parliament", "holdSession", "()I"⟩, 13) := ⟨⟨by decide +kernel, by decide +kernel⟩, List.mem_of_getElem? (i := 22) (by decide +kernel), List.mem_of_getElem? (i := 417) (by decide +kernel), List.mem_of_getElem? (i := 418) (by decide +kernel)⟩
theorem lw_p33 : lw_okq (⟨"StringVotes$Parliament", "wouldPass", "()I"⟩, 13) := ⟨⟨by decide +kernel, by decide +kernel⟩, List.mem_of_getElem? (i := 22) (by decide +kernel), List.mem_of_getElem? (i := 421) (by decide +kernel), List.mem_of_getElem? (i := 422) (by decide +kernel)⟩
theorem lw_p34 : lw_okq (⟨"StringVotes$Book", "enter", "(IIII)V"⟩, 3) := ⟨⟨by decide +kernel, by decide +kernel⟩, List.mem_of_getElem? (i := 79) (by decide +kernel), List.mem_of_getElem? (i := 425) (by decide +kernel), List.mem_of_getElem? (i := 426) (by decide +kernel)⟩
theorem lw_p35 : lw_okq (⟨"StringVotes$Parliament", "bindPulls", "(I)I"⟩, 13) := ⟨⟨by decide +kernel, by decide +kernel⟩, List.mem_of_getElem? (i := 22) (by decide +kernel), List.mem_of_getElem? (i := 436) (by decide +kernel), List.mem_of_getElem? (i := 437) (by decide +kernel)⟩
theorem lw_p36 : lw_okq (⟨"StringVotes$Strings", "howManyAt", "(I)I"⟩, 6) := ⟨⟨by decide +kernel, by decide +kernel⟩, List.mem_of_getElem? (i := 42) (by decide +kernel), List.mem_of_getElem? (i := 448) (by decide +kernel), List.mem_of_getElem? (i := 449) (by decide +kernel)⟩
theorem lw_p37 : lw_okq (⟨"StringVotes$Parliament", "membersOf", "(I)I"⟩, 13) := ⟨⟨by decide +kernel, by decide +kernel⟩, List.mem_of_getElem? (i := 22) (by decide +kernel), List.mem_of_getElem? (i := 452) (by decide +kernel), List.mem_of_getElem? (i := 453) (by decide +kernel)⟩
theorem lw_p38 : lw_okq (⟨"StringVotes$Parliament", "seatsIn", "(I)I"⟩, 13) := ⟨⟨by decide +kernel, by decide +kernel⟩, List.mem_of_getElem? (i := 22) (by decide +kernel), List.mem_of_getElem? (i := 456) (by decide +kernel), List.mem_of_getElem? (i := 457) (by decide +kernel)⟩
theorem lw_p39 : lw_okq (⟨"StringVotes", "hangTogetherWithout", "(I)Z"⟩, 11) := ⟨⟨by decide +kernel, by decide +kernel⟩, List.mem_of_getElem? (i := 14) (by decide +kernel), List.mem_of_getElem? (i := 468) (by decide +kernel), List.mem_of_getElem? (i := 469) (by decide +kernel)⟩
theorem lw_p40 : lw_okq (⟨"StringVotes$Strings", "oneStringFurther", "(I)I"⟩, 6) := ⟨⟨by decide +kernel, by decide +kernel⟩, List.mem_of_getElem? (i := 42) (by decide +kernel), List.mem_of_getElem? (i := 478) (by decide +kernel), List.mem_of_getElem? (i := 479) (by decide +kernel)⟩
theorem lw_p41 : lw_okq (⟨"StringVotes$Book", "kept", "()I"⟩, 3) := ⟨⟨by decide +kernel, by decide +kernel⟩, List.mem_of_getElem? (i := 79) (by decide +kernel), List.mem_of_getElem? (i := 487) (by decide +kernel), List.mem_of_getElem? (i := 488) (by decide +kernel)⟩
theorem lw_p42 : lw_okq (⟨"StringVotes$Book", "entry", "(II)I"⟩, 3) := ⟨⟨by decide +kernel, by decide +kernel⟩, List.mem_of_getElem? (i := 79) (by decide +kernel), List.mem_of_getElem? (i := 492) (by decide +kernel), List.mem_of_getElem? (i := 493) (by decide +kernel)⟩
theorem lw_p43 : lw_okq (⟨"StringVotes", "seatsIfPulled", "(II)I"⟩, 11) := ⟨⟨by decide +kernel, by decide +kernel⟩, List.mem_of_getElem? (i := 14) (by decide +kernel), List.mem_of_getElem? (i := 511) (by decide +kernel), List.mem_of_getElem? (i := 512) (by decide +kernel)⟩
theorem lw_p44 : lw_okq (⟨"StringVotes$Turns", "collect", "(LStringVotes$Parliament;)V"⟩, 3) := ⟨⟨by decide +kernel, by decide +kernel⟩, List.mem_of_getElem? (i := 157) (by decide +kernel), List.mem_of_getElem? (i := 520) (by decide +kernel), List.mem_of_getElem? (i := 521) (by decide +kernel)⟩
theorem lw_p45 : lw_okq (⟨"StringVotes$Parliament", "yesVoters", "()I"⟩, 13) := ⟨⟨by decide +kernel, by decide +kernel⟩, List.mem_of_getElem? (i := 22) (by decide +kernel), List.mem_of_getElem? (i := 525) (by decide +kernel), List.mem_of_getElem? (i := 526) (by decide +kernel)⟩
theorem lw_p46 : lw_okq (⟨"StringVotes$Turns", "fewestByTheBest", "()I"⟩, 3) := ⟨⟨by decide +kernel, by decide +kernel⟩, List.mem_of_getElem? (i := 157) (by decide +kernel), List.mem_of_getElem? (i := 531) (by decide +kernel), List.mem_of_getElem? (i := 532) (by decide +kernel)⟩
theorem lw_p47 : lw_okq (⟨"StringVotes$Turns", "bestBut", "(I)I"⟩, 3) := ⟨⟨by decide +kernel, by decide +kernel⟩, List.mem_of_getElem? (i := 157) (by decide +kernel), List.mem_of_getElem? (i := 535) (by decide +kernel), List.mem_of_getElem? (i := 536) (by decide +kernel)⟩
def lw_privs_3 : List (MethodName × Nat) := [(⟨"StringVotes$Parliament", "holdSession", "()I"⟩, 13), (⟨"StringVotes$Parliament", "wouldPass", "()I"⟩, 13), (⟨"StringVotes$Book", "enter", "(IIII)V"⟩, 3), (⟨"StringVotes$Parliament", "bindPulls", "(I)I"⟩, 13), (⟨"StringVotes$Strings", "howManyAt", "(I)I"⟩, 6), (⟨"StringVotes$Parliament", "membersOf", "(I)I"⟩, 13), (⟨"StringVotes$Parliament", "seatsIn", "(I)I"⟩, 13), (⟨"StringVotes", "hangTogetherWithout", "(I)Z"⟩, 11), (⟨"StringVotes$Strings", "oneStringFurther", "(I)I"⟩, 6), (⟨"StringVotes$Book", "kept", "()I"⟩, 3), (⟨"StringVotes$Book", "entry", "(II)I"⟩, 3), (⟨"StringVotes", "seatsIfPulled", "(II)I"⟩, 11), (⟨"StringVotes$Turns", "collect", "(LStringVotes$Parliament;)V"⟩, 3), (⟨"StringVotes$Parliament", "yesVoters", "()I"⟩, 13), (⟨"StringVotes$Turns", "fewestByTheBest", "()I"⟩, 3), (⟨"StringVotes$Turns", "bestBut", "(I)I"⟩, 3)]
theorem lw_r3 : ∀ q ∈ lw_privs_3, lw_okq q := List.forall_mem_cons.mpr ⟨lw_p32, List.forall_mem_cons.mpr ⟨lw_p33, List.forall_mem_cons.mpr ⟨lw_p34, List.forall_mem_cons.mpr ⟨lw_p35, List.forall_mem_cons.mpr ⟨lw_p36, List.forall_mem_cons.mpr ⟨lw_p37, List.forall_mem_cons.mpr ⟨lw_p38, List.forall_mem_cons.mpr ⟨lw_p39, List.forall_mem_cons.mpr ⟨lw_p40, List.forall_mem_cons.mpr ⟨lw_p41, List.forall_mem_cons.mpr ⟨lw_p42, List.forall_mem_cons.mpr ⟨lw_p43, List.forall_mem_cons.mpr ⟨lw_p44, List.forall_mem_cons.mpr ⟨lw_p45, List.forall_mem_cons.mpr ⟨lw_p46, List.forall_mem_cons.mpr ⟨lw_p47, fun _ h => absurd h List.not_mem_nil⟩⟩⟩⟩⟩⟩⟩⟩⟩⟩⟩⟩⟩⟩⟩⟩
theorem lw_p48 : lw_okq (⟨"StringVotes$Turns", "fewestOfAllSets", "()I"⟩, 3) := ⟨⟨by decide +kernel, by decide +kernel⟩, List.mem_of_getElem? (i := 157) (by decide +kernel), List.mem_of_getElem? (i := 541) (by decide +kernel), List.mem_of_getElem? (i := 542) (by decide +kernel)⟩
theorem lw_p49 : lw_okq (⟨"StringVotes$Turns", "stepTo", "(I)I"⟩, 3) := ⟨⟨by decide +kernel, by decide +kernel⟩, List.mem_of_getElem? (i := 157) (by decide +kernel), List.mem_of_getElem? (i := 545) (by decide +kernel), List.mem_of_getElem? (i := 546) (by decide +kernel)⟩
theorem lw_p50 : lw_okq (⟨"StringVotes$Parliament", "groupsByJoining", "()I"⟩, 13) := ⟨⟨by decide +kernel, by decide +kernel⟩, List.mem_of_getElem? (i := 22) (by decide +kernel), List.mem_of_getElem? (i := 559) (by decide +kernel), List.mem_of_getElem? (i := 560) (by decide +kernel)⟩
theorem lw_p51 : lw_okq (⟨"StringVotes$Parliament", "groupsByWalking", "()I"⟩, 13) := ⟨⟨by decide +kernel, by decide +kernel⟩, List.mem_of_getElem? (i := 22) (by decide +kernel), List.mem_of_getElem? (i := 575) (by decide +kernel), List.mem_of_getElem? (i := 576) (by decide +kernel)⟩
theorem lw_p52 : lw_okq (⟨"StringVotes$Parliament", "walkFrom", "(I)I"⟩, 13) := ⟨⟨by decide +kernel, by decide +kernel⟩, List.mem_of_getElem? (i := 22) (by decide +kernel), List.mem_of_getElem? (i := 579) (by decide +kernel), List.mem_of_getElem? (i := 580) (by decide +kernel)⟩
theorem lw_p53 : lw_okq (⟨"StringVotes$Parliament", "pulledPuppets", "()I"⟩, 13) := ⟨⟨by decide +kernel, by decide +kernel⟩, List.mem_of_getElem? (i := 22) (by decide +kernel), List.mem_of_getElem? (i := 585) (by decide +kernel), List.mem_of_getElem? (i := 586) (by decide +kernel)⟩
theorem lw_p54 : lw_okq (⟨"StringVotes$Text", "append", "(I)Z"⟩, 5) := ⟨⟨by decide +kernel, by decide +kernel⟩, List.mem_of_getElem? (i := 175) (by decide +kernel), List.mem_of_getElem? (i := 598) (by decide +kernel), List.mem_of_getElem? (i := 599) (by decide +kernel)⟩
theorem lw_p55 : lw_okq (⟨"StringVotes", "tryOrders", "()Z"⟩, 11) := ⟨⟨by decide +kernel, by decide +kernel⟩, List.mem_of_getElem? (i := 14) (by decide +kernel), List.mem_of_getElem? (i := 612) (by decide +kernel), List.mem_of_getElem? (i := 613) (by decide +kernel)⟩
theorem lw_p56 : lw_okq (⟨"StringVotes$Text", "readOrder", "(I)Z"⟩, 5) := ⟨⟨by decide +kernel, by decide +kernel⟩, List.mem_of_getElem? (i := 175) (by decide +kernel), List.mem_of_getElem? (i := 616) (by decide +kernel), List.mem_of_getElem? (i := 617) (by decide +kernel)⟩
theorem lw_p57 : lw_okq (⟨"StringVotes$Text", "current", "()I"⟩, 5) := ⟨⟨by decide +kernel, by decide +kernel⟩, List.mem_of_getElem? (i := 175) (by decide +kernel), List.mem_of_getElem? (i := 620) (by decide +kernel), List.mem_of_getElem? (i := 621) (by decide +kernel)⟩
theorem lw_p58 : lw_okq (⟨"StringVotes$Text", "skip", "(I)Z"⟩, 5) := ⟨⟨by decide +kernel, by decide +kernel⟩, List.mem_of_getElem? (i := 175) (by decide +kernel), List.mem_of_getElem? (i := 628) (by decide +kernel), List.mem_of_getElem? (i := 629) (by decide +kernel)⟩
theorem lw_p59 : lw_okq (⟨"StringVotes$Text", "readNumber", "(I)Z"⟩, 5) := ⟨⟨by decide +kernel, by decide +kernel⟩, List.mem_of_getElem? (i := 175) (by decide +kernel), List.mem_of_getElem? (i := 632) (by decide +kernel), List.mem_of_getElem? (i := 633) (by decide +kernel)⟩
theorem lw_p60 : lw_okq (⟨"StringVotes", "foundFault", "(III)Z"⟩, 11) := ⟨⟨by decide +kernel, by decide +kernel⟩, List.mem_of_getElem? (i := 14) (by decide +kernel), List.mem_of_getElem? (i := 640) (by decide +kernel), List.mem_of_getElem? (i := 641) (by decide +kernel)⟩
theorem lw_p61 : lw_okq (⟨"StringVotes", "obey", "()I"⟩, 11) := ⟨⟨by decide +kernel, by decide +kernel⟩, List.mem_of_getElem? (i := 14) (by decide +kernel), List.mem_of_getElem? (i := 644) (by decide +kernel), List.mem_of_getElem? (i := 645) (by decide +kernel)⟩
theorem lw_p62 : lw_okq (⟨"StringVotesModel", "isPair", "(II)Z"⟩, 18) := ⟨⟨by decide +kernel, by decide +kernel⟩, List.mem_of_getElem? (i := 652) (by decide +kernel), List.mem_of_getElem? (i := 717) (by decide +kernel), List.mem_of_getElem? (i := 718) (by decide +kernel)⟩
theorem lw_p63 : lw_okq (⟨"StringVotesModel", "isPuppet", "(I)Z"⟩, 18) := ⟨⟨by decide +kernel, by decide +kernel⟩, List.mem_of_getElem? (i := 652) (by decide +kernel), List.mem_of_getElem? (i := 721) (by decide +kernel), List.mem_of_getElem? (i := 722) (by decide +kernel)⟩
def lw_privs_4 : List (MethodName × Nat) := [(⟨"StringVotes$Turns", "fewestOfAllSets", "()I"⟩, 3), (⟨"StringVotes$Turns", "stepTo", "(I)I"⟩, 3), (⟨"StringVotes$Parliament", "groupsByJoining", "()I"⟩, 13), (⟨"StringVotes$Parliament", "groupsByWalking", "()I"⟩, 13), (⟨"StringVotes$Parliament", "walkFrom", "(I)I"⟩, 13), (⟨"StringVotes$Parliament", "pulledPuppets", "()I"⟩, 13), (⟨"StringVotes$Text", "append", "(I)Z"⟩, 5), (⟨"StringVotes", "tryOrders", "()Z"⟩, 11), (⟨"StringVotes$Text", "readOrder", "(I)Z"⟩, 5), (⟨"StringVotes$Text", "current", "()I"⟩, 5), (⟨"StringVotes$Text", "skip", "(I)Z"⟩, 5), (⟨"StringVotes$Text", "readNumber", "(I)Z"⟩, 5), (⟨"StringVotes", "foundFault", "(III)Z"⟩, 11), (⟨"StringVotes", "obey", "()I"⟩, 11), (⟨"StringVotesModel", "isPair", "(II)Z"⟩, 18), (⟨"StringVotesModel", "isPuppet", "(I)Z"⟩, 18)]
theorem lw_r4 : ∀ q ∈ lw_privs_4, lw_okq q := List.forall_mem_cons.mpr ⟨lw_p48, List.forall_mem_cons.mpr ⟨lw_p49, List.forall_mem_cons.mpr ⟨lw_p50, List.forall_mem_cons.mpr ⟨lw_p51, List.forall_mem_cons.mpr ⟨lw_p52, List.forall_mem_cons.mpr ⟨lw_p53, List.forall_mem_cons.mpr ⟨lw_p54, List.forall_mem_cons.mpr ⟨lw_p55, List.forall_mem_cons.mpr ⟨lw_p56, List.forall_mem_cons.mpr ⟨lw_p57, List.forall_mem_cons.mpr ⟨lw_p58, List.forall_mem_cons.mpr ⟨lw_p59, List.forall_mem_cons.mpr ⟨lw_p60, List.forall_mem_cons.mpr ⟨lw_p61, List.forall_mem_cons.mpr ⟨lw_p62, List.forall_mem_cons.mpr ⟨lw_p63, fun _ h => absurd h List.not_mem_nil⟩⟩⟩⟩⟩⟩⟩⟩⟩⟩⟩⟩⟩⟩⟩⟩
theorem lw_p64 : lw_okq (⟨"StringVotesModel", "refused", "(III)I"⟩, 18) := ⟨⟨by decide +kernel, by decide +kernel⟩, List.mem_of_getElem? (i := 652) (by decide +kernel), List.mem_of_getElem? (i := 728) (by decide +kernel), List.mem_of_getElem? (i := 729) (by decide +kernel)⟩
theorem lw_p65 : lw_okq (⟨"StringVotesModel", "stringOfBoth", "(II)I"⟩, 18) := ⟨⟨by decide +kernel, by decide +kernel⟩, List.mem_of_getElem? (i := 652) (by decide +kernel), List.mem_of_getElem? (i := 732) (by decide +kernel), List.mem_of_getElem? (i := 733) (by decide +kernel)⟩
theorem lw_p66 : lw_okq (⟨"StringVotesModel", "tied", "(II)I"⟩, 18) := ⟨⟨by decide +kernel, by decide +kernel⟩, List.mem_of_getElem? (i := 652) (by decide +kernel), List.mem_of_getElem? (i := 736) (by decide +kernel), List.mem_of_getElem? (i := 737) (by decide +kernel)⟩
theorem lw_p67 : lw_okq (⟨"StringVotesModel", "looks", "(I)V"⟩, 18) := ⟨⟨by decide +kernel, by decide +kernel⟩, List.mem_of_getElem? (i := 652) (by decide +kernel), List.mem_of_getElem? (i := 741) (by decide +kernel), List.mem_of_getElem? (i := 742) (by decide +kernel)⟩
theorem lw_p68 : lw_okq (⟨"StringVotesModel", "isJoined", "(III)Z"⟩, 18) := ⟨⟨by decide +kernel, by decide +kernel⟩, List.mem_of_getElem? (i := 652) (by decide +kernel), List.mem_of_getElem? (i := 745) (by decide +kernel), List.mem_of_getElem? (i := 746) (by decide +kernel)⟩
theorem lw_p69 : lw_okq (⟨"StringVotesModel", "pulled", "(II)I"⟩, 18) := ⟨⟨by decide +kernel, by decide +kernel⟩, List.mem_of_getElem? (i := 652) (by decide +kernel), List.mem_of_getElem? (i := 749) (by decide +kernel), List.mem_of_getElem? (i := 750) (by decide +kernel)⟩
theorem lw_p70 : lw_okq (⟨"StringVotesModel", "of", "(II)I"⟩, 18) := ⟨⟨by decide +kernel, by decide +kernel⟩, List.mem_of_getElem? (i := 652) (by decide +kernel), List.mem_of_getElem? (i := 753) (by decide +kernel), List.mem_of_getElem? (i := 754) (by decide +kernel)⟩
theorem lw_p71 : lw_okq (⟨"StringVotesModel", "changes", "()V"⟩, 18) := ⟨⟨by decide +kernel, by decide +kernel⟩, List.mem_of_getElem? (i := 652) (by decide +kernel), List.mem_of_getElem? (i := 763) (by decide +kernel), List.mem_of_getElem? (i := 764) (by decide +kernel)⟩
theorem lw_p72 : lw_okq (⟨"StringVotesModel", "isString", "(I)Z"⟩, 18) := ⟨⟨by decide +kernel, by decide +kernel⟩, List.mem_of_getElem? (i := 652) (by decide +kernel), List.mem_of_getElem? (i := 776) (by decide +kernel), List.mem_of_getElem? (i := 777) (by decide +kernel)⟩
theorem lw_p73 : lw_okq (⟨"StringVotesModel", "cuts", "(I)V"⟩, 18) := ⟨⟨by decide +kernel, by decide +kernel⟩, List.mem_of_getElem? (i := 652) (by decide +kernel), List.mem_of_getElem? (i := 780) (by decide +kernel), List.mem_of_getElem? (i := 781) (by decide +kernel)⟩
theorem lw_p74 : lw_okq (⟨"StringVotesModel", "ofDeal", "(I)I"⟩, 18) := ⟨⟨by decide +kernel, by decide +kernel⟩, List.mem_of_getElem? (i := 652) (by decide +kernel), List.mem_of_getElem? (i := 788) (by decide +kernel), List.mem_of_getElem? (i := 789) (by decide +kernel)⟩
theorem lw_p75 : lw_okq (⟨"StringVotesModel", "barred", "(II)I"⟩, 18) := ⟨⟨by decide +kernel, by decide +kernel⟩, List.mem_of_getElem? (i := 652) (by decide +kernel), List.mem_of_getElem? (i := 796) (by decide +kernel), List.mem_of_getElem? (i := 797) (by decide +kernel)⟩
theorem lw_p76 : lw_okq (⟨"StringVotesModel", "manyPulled", "(I)I"⟩, 18) := ⟨⟨by decide +kernel, by decide +kernel⟩, List.mem_of_getElem? (i := 652) (by decide +kernel), List.mem_of_getElem? (i := 800) (by decide +kernel), List.mem_of_getElem? (i := 801) (by decide +kernel)⟩
theorem lw_p77 : lw_okq (⟨"StringVotesModel", "yesNow", "()I"⟩, 18) := ⟨⟨by decide +kernel, by decide +kernel⟩, List.mem_of_getElem? (i := 652) (by decide +kernel), List.mem_of_getElem? (i := 808) (by decide +kernel), List.mem_of_getElem? (i := 809) (by decide +kernel)⟩
theorem lw_p78 : lw_okq (⟨"StringVotesModel", "votes", "()I"⟩, 18) := ⟨⟨by decide +kernel, by decide +kernel⟩, List.mem_of_getElem? (i := 652) (by decide +kernel), List.mem_of_getElem? (i := 812) (by decide +kernel), List.mem_of_getElem? (i := 813) (by decide +kernel)⟩
theorem lw_p79 : lw_okq (⟨"StringVotesModel", "byLeanings", "(I)I"⟩, 18) := ⟨⟨by decide +kernel, by decide +kernel⟩, List.mem_of_getElem? (i := 652) (by decide +kernel), List.mem_of_getElem? (i := 816) (by decide +kernel), List.mem_of_getElem? (i := 817) (by decide +kernel)⟩
def lw_privs_5 : List (MethodName × Nat) := [(⟨"StringVotesModel", "refused", "(III)I"⟩, 18), (⟨"StringVotesModel", "stringOfBoth", "(II)I"⟩, 18), (⟨"StringVotesModel", "tied", "(II)I"⟩, 18), (⟨"StringVotesModel", "looks", "(I)V"⟩, 18), (⟨"StringVotesModel", "isJoined", "(III)Z"⟩, 18), (⟨"StringVotesModel", "pulled", "(II)I"⟩, 18), (⟨"StringVotesModel", "of", "(II)I"⟩, 18), (⟨"StringVotesModel", "changes", "()V"⟩, 18), (⟨"StringVotesModel", "isString", "(I)Z"⟩, 18), (⟨"StringVotesModel", "cuts", "(I)V"⟩, 18), (⟨"StringVotesModel", "ofDeal", "(I)I"⟩, 18), (⟨"StringVotesModel", "barred", "(II)I"⟩, 18), (⟨"StringVotesModel", "manyPulled", "(I)I"⟩, 18), (⟨"StringVotesModel", "yesNow", "()I"⟩, 18), (⟨"StringVotesModel", "votes", "()I"⟩, 18), (⟨"StringVotesModel", "byLeanings", "(I)I"⟩, 18)]
theorem lw_r5 : ∀ q ∈ lw_privs_5, lw_okq q := List.forall_mem_cons.mpr ⟨lw_p64, List.forall_mem_cons.mpr ⟨lw_p65, List.forall_mem_cons.mpr ⟨lw_p66, List.forall_mem_cons.mpr ⟨lw_p67, List.forall_mem_cons.mpr ⟨lw_p68, List.forall_mem_cons.mpr ⟨lw_p69, List.forall_mem_cons.mpr ⟨lw_p70, List.forall_mem_cons.mpr ⟨lw_p71, List.forall_mem_cons.mpr ⟨lw_p72, List.forall_mem_cons.mpr ⟨lw_p73, List.forall_mem_cons.mpr ⟨lw_p74, List.forall_mem_cons.mpr ⟨lw_p75, List.forall_mem_cons.mpr ⟨lw_p76, List.forall_mem_cons.mpr ⟨lw_p77, List.forall_mem_cons.mpr ⟨lw_p78, List.forall_mem_cons.mpr ⟨lw_p79, fun _ h => absurd h List.not_mem_nil⟩⟩⟩⟩⟩⟩⟩⟩⟩⟩⟩⟩⟩⟩⟩⟩
theorem lw_p80 : lw_okq (⟨"StringVotesModel", "isPassed", "()Z"⟩, 18) := ⟨⟨by decide +kernel, by decide +kernel⟩, List.mem_of_getElem? (i := 652) (by decide +kernel), List.mem_of_getElem? (i := 828) (by decide +kernel), List.mem_of_getElem? (i := 829) (by decide +kernel)⟩
theorem lw_p81 : lw_okq (⟨"StringVotesModel", "seats", "()I"⟩, 18) := ⟨⟨by decide +kernel, by decide +kernel⟩, List.mem_of_getElem? (i := 652) (by decide +kernel), List.mem_of_getElem? (i := 832) (by decide +kernel), List.mem_of_getElem? (i := 833) (by decide +kernel)⟩
theorem lw_p82 : lw_okq (⟨"StringVotesModel", "tiesOf", "(I)I"⟩, 18) := ⟨⟨by decide +kernel, by decide +kernel⟩, List.mem_of_getElem? (i := 652) (by decide +kernel), List.mem_of_getElem? (i := 844) (by decide +kernel), List.mem_of_getElem? (i := 845) (by decide +kernel)⟩
theorem lw_p83 : lw_okq (⟨"StringVotesModel", "groupOf", "(I)I"⟩, 18) := ⟨⟨by decide +kernel, by decide +kernel⟩, List.mem_of_getElem? (i := 652) (by decide +kernel), List.mem_of_getElem? (i := 848) (by decide +kernel), List.mem_of_getElem? (i := 849) (by decide +kernel)⟩
theorem lw_p84 : lw_okq (⟨"StringVotesModel", "groupSeats", "(I)I"⟩, 18) := ⟨⟨by decide +kernel, by decide +kernel⟩, List.mem_of_getElem? (i := 652) (by decide +kernel), List.mem_of_getElem? (i := 852) (by decide +kernel), List.mem_of_getElem? (i := 853) (by decide +kernel)⟩
theorem lw_p85 : lw_okq (⟨"StringVotesModel", "reached", "(I)I"⟩, 18) := ⟨⟨by decide +kernel, by decide +kernel⟩, List.mem_of_getElem? (i := 652) (by decide +kernel), List.mem_of_getElem? (i := 864) (by decide +kernel), List.mem_of_getElem? (i := 865) (by decide +kernel)⟩
theorem lw_p86 : lw_okq (⟨"StringVotesModel", "yesWith", "(II)I"⟩, 18) := ⟨⟨by decide +kernel, by decide +kernel⟩, List.mem_of_getElem? (i := 652) (by decide +kernel), List.mem_of_getElem? (i := 876) (by decide +kernel), List.mem_of_getElem? (i := 877) (by decide +kernel)⟩
theorem lw_p87 : lw_okq (⟨"StringVotesModel", "gains", "()I"⟩, 18) := ⟨⟨by decide +kernel, by decide +kernel⟩, List.mem_of_getElem? (i := 652) (by decide +kernel), List.mem_of_getElem? (i := 884) (by decide +kernel), List.mem_of_getElem? (i := 885) (by decide +kernel)⟩
theorem lw_p88 : lw_okq (⟨"StringVotesModel", "greedy", "(II)I"⟩, 18) := ⟨⟨by decide +kernel, by decide +kernel⟩, List.mem_of_getElem? (i := 652) (by decide +kernel), List.mem_of_getElem? (i := 888) (by decide +kernel), List.mem_of_getElem? (i := 889) (by decide +kernel)⟩
theorem lw_p89 : lw_okq (⟨"StringVotesModel", "bySets", "(II)I"⟩, 18) := ⟨⟨by decide +kernel, by decide +kernel⟩, List.mem_of_getElem? (i := 652) (by decide +kernel), List.mem_of_getElem? (i := 892) (by decide +kernel), List.mem_of_getElem? (i := 893) (by decide +kernel)⟩
theorem lw_p90 : lw_okq (⟨"StringVotesModel", "groups", "()I"⟩, 18) := ⟨⟨by decide +kernel, by decide +kernel⟩, List.mem_of_getElem? (i := 652) (by decide +kernel), List.mem_of_getElem? (i := 900) (by decide +kernel), List.mem_of_getElem? (i := 901) (by decide +kernel)⟩
theorem lw_p91 : lw_okq (⟨"StringVotesModel", "walked", "()I"⟩, 18) := ⟨⟨by decide +kernel, by decide +kernel⟩, List.mem_of_getElem? (i := 652) (by decide +kernel), List.mem_of_getElem? (i := 922) (by decide +kernel), List.mem_of_getElem? (i := 923) (by decide +kernel)⟩
theorem lw_p92 : lw_okq (⟨"StringVotesModel", "pulledSet", "()I"⟩, 18) := ⟨⟨by decide +kernel, by decide +kernel⟩, List.mem_of_getElem? (i := 652) (by decide +kernel), List.mem_of_getElem? (i := 926) (by decide +kernel), List.mem_of_getElem? (i := 927) (by decide +kernel)⟩
theorem lw_p93 : lw_okq (⟨"StringVotesModel", "plays", "()Z"⟩, 18) := ⟨⟨by decide +kernel, by decide +kernel⟩, List.mem_of_getElem? (i := 652) (by decide +kernel), List.mem_of_getElem? (i := 949) (by decide +kernel), List.mem_of_getElem? (i := 950) (by decide +kernel)⟩
theorem lw_p94 : lw_okq (⟨"StringVotesModel", "parses", "()Z"⟩, 18) := ⟨⟨by decide +kernel, by decide +kernel⟩, List.mem_of_getElem? (i := 652) (by decide +kernel), List.mem_of_getElem? (i := 953) (by decide +kernel), List.mem_of_getElem? (i := 954) (by decide +kernel)⟩
theorem lw_p95 : lw_okq (⟨"StringVotesModel", "isAt", "(II)Z"⟩, 18) := ⟨⟨by decide +kernel, by decide +kernel⟩, List.mem_of_getElem? (i := 652) (by decide +kernel), List.mem_of_getElem? (i := 957) (by decide +kernel), List.mem_of_getElem? (i := 958) (by decide +kernel)⟩
def lw_privs_6 : List (MethodName × Nat) := [(⟨"StringVotesModel", "isPassed", "()Z"⟩, 18), (⟨"StringVotesModel", "seats", "()I"⟩, 18), (⟨"StringVotesModel", "tiesOf", "(I)I"⟩, 18), (⟨"StringVotesModel", "groupOf", "(I)I"⟩, 18), (⟨"StringVotesModel", "groupSeats", "(I)I"⟩, 18), (⟨"StringVotesModel", "reached", "(I)I"⟩, 18), (⟨"StringVotesModel", "yesWith", "(II)I"⟩, 18), (⟨"StringVotesModel", "gains", "()I"⟩, 18), (⟨"StringVotesModel", "greedy", "(II)I"⟩, 18), (⟨"StringVotesModel", "bySets", "(II)I"⟩, 18), (⟨"StringVotesModel", "groups", "()I"⟩, 18), (⟨"StringVotesModel", "walked", "()I"⟩, 18), (⟨"StringVotesModel", "pulledSet", "()I"⟩, 18), (⟨"StringVotesModel", "plays", "()Z"⟩, 18), (⟨"StringVotesModel", "parses", "()Z"⟩, 18), (⟨"StringVotesModel", "isAt", "(II)Z"⟩, 18)]
theorem lw_r6 : ∀ q ∈ lw_privs_6, lw_okq q := List.forall_mem_cons.mpr ⟨lw_p80, List.forall_mem_cons.mpr ⟨lw_p81, List.forall_mem_cons.mpr ⟨lw_p82, List.forall_mem_cons.mpr ⟨lw_p83, List.forall_mem_cons.mpr ⟨lw_p84, List.forall_mem_cons.mpr ⟨lw_p85, List.forall_mem_cons.mpr ⟨lw_p86, List.forall_mem_cons.mpr ⟨lw_p87, List.forall_mem_cons.mpr ⟨lw_p88, List.forall_mem_cons.mpr ⟨lw_p89, List.forall_mem_cons.mpr ⟨lw_p90, List.forall_mem_cons.mpr ⟨lw_p91, List.forall_mem_cons.mpr ⟨lw_p92, List.forall_mem_cons.mpr ⟨lw_p93, List.forall_mem_cons.mpr ⟨lw_p94, List.forall_mem_cons.mpr ⟨lw_p95, fun _ h => absurd h List.not_mem_nil⟩⟩⟩⟩⟩⟩⟩⟩⟩⟩⟩⟩⟩⟩⟩⟩
theorem lw_p96 : lw_okq (⟨"StringVotesModel", "numbered", "(I)Z"⟩, 18) := ⟨⟨by decide +kernel, by decide +kernel⟩, List.mem_of_getElem? (i := 652) (by decide +kernel), List.mem_of_getElem? (i := 964) (by decide +kernel), List.mem_of_getElem? (i := 965) (by decide +kernel)⟩
theorem lw_p97 : lw_okq (⟨"StringVotesModel", "sign", "(I)Z"⟩, 18) := ⟨⟨by decide +kernel, by decide +kernel⟩, List.mem_of_getElem? (i := 652) (by decide +kernel), List.mem_of_getElem? (i := 968) (by decide +kernel), List.mem_of_getElem? (i := 969) (by decide +kernel)⟩
theorem lw_p98 : lw_okq (⟨"StringVotesModel", "does", "()I"⟩, 18) := ⟨⟨by decide +kernel, by decide +kernel⟩, List.mem_of_getElem? (i := 652) (by decide +kernel), List.mem_of_getElem? (i := 972) (by decide +kernel), List.mem_of_getElem? (i := 973) (by decide +kernel)⟩
def lw_privs_7 : List (MethodName × Nat) := [(⟨"StringVotesModel", "numbered", "(I)Z"⟩, 18), (⟨"StringVotesModel", "sign", "(I)Z"⟩, 18), (⟨"StringVotesModel", "does", "()I"⟩, 18)]
theorem lw_r7 : ∀ q ∈ lw_privs_7, lw_okq q := List.forall_mem_cons.mpr ⟨lw_p96, List.forall_mem_cons.mpr ⟨lw_p97, List.forall_mem_cons.mpr ⟨lw_p98, fun _ h => absurd h List.not_mem_nil⟩⟩⟩
def lw_privs : List (MethodName × Nat) := lw_privs_1 ++ (lw_privs_2 ++ (lw_privs_3 ++ (lw_privs_4 ++ (lw_privs_5 ++ (lw_privs_6 ++ (lw_privs_7))))))
def lw_tbl : List Cond := k2_sels lw_privs ++ tables_1
theorem lw_privs_ok : ∀ q ∈ lw_privs, lw_okq q := by
  show ∀ q ∈ lw_privs_1 ++ (lw_privs_2 ++ (lw_privs_3 ++ (lw_privs_4 ++ (lw_privs_5 ++ (lw_privs_6 ++ (lw_privs_7)))))), lw_okq q
  exact List.forall_mem_append.mpr ⟨lw_r1, List.forall_mem_append.mpr ⟨lw_r2, List.forall_mem_append.mpr ⟨lw_r3, List.forall_mem_append.mpr ⟨lw_r4, List.forall_mem_append.mpr ⟨lw_r5, List.forall_mem_append.mpr ⟨lw_r6, lw_r7⟩⟩⟩⟩⟩⟩
/-- the streams that the claim lets the run draw from -/
abbrev lw_cs : List Choice := [Jvm.Choice.named "NaN.bits"]
theorem lw_bits : nanBits ∈ lw_cs := by first | decide | exact List.mem_cons_self | simp [lw_cs, nanBits]
-- ===== end of PART A; then your names; then what follows =====
def RX0 : String := "StringVotes$Book"
def TX0 : u_T := fun k => match k with
  | 0 => ("StringVotes$Book", "entries", "LStringVotes$Row;", true)
  | 1 => ("StringVotes$Book", "sessions", "I", false)
  | _ => ("StringVotes$Book", "passed", "I", false)
def tyX0 : Nat → FieldType := fun k => match k with
  | 0 => .object "StringVotes$Row"
  | 1 => .int
  | _ => .int
abbrev wsX00 : List Cond := u_ws RX0 TX0 3
theorem nmX0 : ∀ a, a < 3 → ∀ b, b < 3 → a ≠ b → (TX0 a).2.1 ≠ (TX0 b).2.1 := by decide +kernel
theorem tyX0_ok : ∀ k, k < 3 → parseFieldDescriptor (TX0 k).2.2.1 = some (tyX0 k) := by decide +kernel
abbrev cX0_init : ByteArray := prog_2_method_1_code
def yX0_init : MethodName := ⟨RX0, "<init>", "()V"⟩
abbrev cX0_copyFrom : ByteArray := prog_2_method_2_code
def yX0_copyFrom : MethodName := ⟨RX0, "copyFrom", "(LStringVotes$Book;)V"⟩
abbrev cX0_kept : ByteArray := prog_2_method_3_code
def yX0_kept : MethodName := ⟨RX0, "kept", "()I"⟩
abbrev cX0_entry : ByteArray := prog_2_method_4_code
def yX0_entry : MethodName := ⟨RX0, "entry", "(II)I"⟩
abbrev cX0_enter : ByteArray := prog_2_method_5_code
def yX0_enter : MethodName := ⟨RX0, "enter", "(IIII)V"⟩
def RX1 : String := "StringVotes$Parliament"
def TX1 : u_T := fun k => match k with
  | 0 => ("StringVotes$Parliament", "seats", "LStringVotes$Row;", true)
  | 1 => ("StringVotes$Parliament", "leaning", "LStringVotes$Row;", true)
  | 2 => ("StringVotes$Parliament", "pulled", "LStringVotes$Row;", true)
  | 3 => ("StringVotes$Parliament", "lowest", "LStringVotes$Row;", true)
  | 4 => ("StringVotes$Parliament", "side", "LStringVotes$Row;", true)
  | 5 => ("StringVotes$Parliament", "vote", "LStringVotes$Row;", true)
  | 6 => ("StringVotes$Parliament", "strings", "LStringVotes$Strings;", true)
  | 7 => ("StringVotes$Parliament", "book", "LStringVotes$Book;", true)
  | 8 => ("StringVotes$Parliament", "puppets", "I", false)
  | 9 => ("StringVotes$Parliament", "speaker", "I", false)
  | 10 => ("StringVotes$Parliament", "pullsBound", "I", false)
  | 11 => ("StringVotes$Parliament", "allSeats", "I", false)
  | _ => ("StringVotes$Parliament", "yesSeats", "I", false)
def tyX1 : Nat → FieldType := fun k => match k with
  | 0 => .object "StringVotes$Row"
  | 1 => .object "StringVotes$Row"
  | 2 => .object "StringVotes$Row"
  | 3 => .object "StringVotes$Row"
  | 4 => .object "StringVotes$Row"
  | 5 => .object "StringVotes$Row"
  | 6 => .object "StringVotes$Strings"
  | 7 => .object "StringVotes$Book"
  | 8 => .int
  | 9 => .int
  | 10 => .int
  | 11 => .int
  | _ => .int
abbrev wsX10 : List Cond := u_ws RX1 TX1 13
theorem nmX1 : ∀ a, a < 13 → ∀ b, b < 13 → a ≠ b → (TX1 a).2.1 ≠ (TX1 b).2.1 := by decide +kernel
theorem tyX1_ok : ∀ k, k < 13 → parseFieldDescriptor (TX1 k).2.2.1 = some (tyX1 k) := by decide +kernel
abbrev cX1_init : ByteArray := prog_3_method_1_code
def yX1_init : MethodName := ⟨RX1, "<init>", "()V"⟩
abbrev cX1_copyFrom : ByteArray := prog_3_method_2_code
def yX1_copyFrom : MethodName := ⟨RX1, "copyFrom", "(LStringVotes$Parliament;)V"⟩
abbrev cX1_addPuppet : ByteArray := prog_3_method_3_code
def yX1_addPuppet : MethodName := ⟨RX1, "addPuppet", "(II)I"⟩
abbrev cX1_addString : ByteArray := prog_3_method_4_code
def yX1_addString : MethodName := ⟨RX1, "addString", "(IIII)I"⟩
abbrev cX1_cutString : ByteArray := prog_3_method_5_code
def yX1_cutString : MethodName := ⟨RX1, "cutString", "(I)I"⟩
abbrev cX1_cutStringsOf : ByteArray := prog_3_method_6_code
def yX1_cutStringsOf : MethodName := ⟨RX1, "cutStringsOf", "(I)I"⟩
abbrev cX1_pullTo : ByteArray := prog_3_method_7_code
def yX1_pullTo : MethodName := ⟨RX1, "pullTo", "(II)I"⟩
abbrev cX1_letGo : ByteArray := prog_3_method_8_code
def yX1_letGo : MethodName := ⟨RX1, "letGo", "(I)I"⟩
abbrev cX1_holdSession : ByteArray := prog_3_method_9_code
def yX1_holdSession : MethodName := ⟨RX1, "holdSession", "()I"⟩
abbrev cX1_bindPulls : ByteArray := prog_3_method_10_code
def yX1_bindPulls : MethodName := ⟨RX1, "bindPulls", "(I)I"⟩
abbrev cX1_tellGroups : ByteArray := prog_3_method_11_code
def yX1_tellGroups : MethodName := ⟨RX1, "tellGroups", "()V"⟩
abbrev cX1_joinBy : ByteArray := prog_3_method_12_code
def yX1_joinBy : MethodName := ⟨RX1, "joinBy", "(I)V"⟩
abbrev cX1_tellVotes : ByteArray := prog_3_method_13_code
def yX1_tellVotes : MethodName := ⟨RX1, "tellVotes", "()V"⟩
abbrev cX1_leadingVote : ByteArray := prog_3_method_14_code
def yX1_leadingVote : MethodName := ⟨RX1, "leadingVote", "(I)I"⟩
abbrev cX1_pulledVote : ByteArray := prog_3_method_15_code
def yX1_pulledVote : MethodName := ⟨RX1, "pulledVote", "(I)I"⟩
abbrev cX1_hasPuppet : ByteArray := prog_3_method_16_code
def yX1_hasPuppet : MethodName := ⟨RX1, "hasPuppet", "(I)Z"⟩
abbrev cX1_arePair : ByteArray := prog_3_method_17_code
def yX1_arePair : MethodName := ⟨RX1, "arePair", "(II)Z"⟩
abbrev cX1_isPulled : ByteArray := prog_3_method_18_code
def yX1_isPulled : MethodName := ⟨RX1, "isPulled", "(I)Z"⟩
abbrev cX1_hangTogether : ByteArray := prog_3_method_19_code
def yX1_hangTogether : MethodName := ⟨RX1, "hangTogether", "(II)Z"⟩
abbrev cX1_reasonAgainstString : ByteArray := prog_3_method_20_code
def yX1_reasonAgainstString : MethodName := ⟨RX1, "reasonAgainstString", "(III)I"⟩
abbrev cX1_reasonAgainstPull : ByteArray := prog_3_method_21_code
def yX1_reasonAgainstPull : MethodName := ⟨RX1, "reasonAgainstPull", "(II)I"⟩
abbrev cX1_wouldPass : ByteArray := prog_3_method_22_code
def yX1_wouldPass : MethodName := ⟨RX1, "wouldPass", "()I"⟩
abbrev cX1_seatsIn : ByteArray := prog_3_method_23_code
def yX1_seatsIn : MethodName := ⟨RX1, "seatsIn", "(I)I"⟩
abbrev cX1_yesVoters : ByteArray := prog_3_method_24_code
def yX1_yesVoters : MethodName := ⟨RX1, "yesVoters", "()I"⟩
abbrev cX1_pulledPuppets : ByteArray := prog_3_method_25_code
def yX1_pulledPuppets : MethodName := ⟨RX1, "pulledPuppets", "()I"⟩
abbrev cX1_membersOf : ByteArray := prog_3_method_26_code
def yX1_membersOf : MethodName := ⟨RX1, "membersOf", "(I)I"⟩
abbrev cX1_groupsByJoining : ByteArray := prog_3_method_27_code
def yX1_groupsByJoining : MethodName := ⟨RX1, "groupsByJoining", "()I"⟩
abbrev cX1_groupsByWalking : ByteArray := prog_3_method_28_code
def yX1_groupsByWalking : MethodName := ⟨RX1, "groupsByWalking", "()I"⟩
abbrev cX1_walkFrom : ByteArray := prog_3_method_29_code
def yX1_walkFrom : MethodName := ⟨RX1, "walkFrom", "(I)I"⟩
def RX2 : String := "StringVotes$Row"
def TX2 : u_T := fun k => match k with
  | _ => ("StringVotes$Row", "cells", "[I", true)
def tyX2 : Nat → FieldType := fun k => match k with
  | _ => .array .int
abbrev wsX20 : List Cond := u_ws RX2 TX2 1
theorem nmX2 : ∀ a, a < 1 → ∀ b, b < 1 → a ≠ b → (TX2 a).2.1 ≠ (TX2 b).2.1 := by decide +kernel
theorem tyX2_ok : ∀ k, k < 1 → parseFieldDescriptor (TX2 k).2.2.1 = some (tyX2 k) := by decide +kernel
abbrev cX2_init : ByteArray := prog_4_method_1_code
def yX2_init : MethodName := ⟨RX2, "<init>", "(I)V"⟩
abbrev cX2_get : ByteArray := prog_4_method_2_code
def yX2_get : MethodName := ⟨RX2, "get", "(I)I"⟩
abbrev cX2_put : ByteArray := prog_4_method_3_code
def yX2_put : MethodName := ⟨RX2, "put", "(II)V"⟩
abbrev cX2_copyFrom : ByteArray := prog_4_method_4_code
def yX2_copyFrom : MethodName := ⟨RX2, "copyFrom", "(LStringVotes$Row;)V"⟩
abbrev cX2_removeAt : ByteArray := prog_4_method_5_code
def yX2_removeAt : MethodName := ⟨RX2, "removeAt", "(I)V"⟩
def RX3 : String := "StringVotes$Strings"
def TX3 : u_T := fun k => match k with
  | 0 => ("StringVotes$Strings", "lower", "LStringVotes$Row;", true)
  | 1 => ("StringVotes$Strings", "upper", "LStringVotes$Row;", true)
  | 2 => ("StringVotes$Strings", "unlike", "LStringVotes$Row;", true)
  | 3 => ("StringVotes$Strings", "deal", "LStringVotes$Row;", true)
  | 4 => ("StringVotes$Strings", "size", "I", false)
  | _ => ("StringVotes$Strings", "cuts", "I", false)
def tyX3 : Nat → FieldType := fun k => match k with
  | 0 => .object "StringVotes$Row"
  | 1 => .object "StringVotes$Row"
  | 2 => .object "StringVotes$Row"
  | 3 => .object "StringVotes$Row"
  | 4 => .int
  | _ => .int
abbrev wsX30 : List Cond := u_ws RX3 TX3 6
theorem nmX3 : ∀ a, a < 6 → ∀ b, b < 6 → a ≠ b → (TX3 a).2.1 ≠ (TX3 b).2.1 := by decide +kernel
theorem tyX3_ok : ∀ k, k < 6 → parseFieldDescriptor (TX3 k).2.2.1 = some (tyX3 k) := by decide +kernel
abbrev cX3_init : ByteArray := prog_5_method_1_code
def yX3_init : MethodName := ⟨RX3, "<init>", "()V"⟩
abbrev cX3_copyFrom : ByteArray := prog_5_method_2_code
def yX3_copyFrom : MethodName := ⟨RX3, "copyFrom", "(LStringVotes$Strings;)V"⟩
abbrev cX3_has : ByteArray := prog_5_method_3_code
def yX3_has : MethodName := ⟨RX3, "has", "(I)Z"⟩
abbrev cX3_append : ByteArray := prog_5_method_4_code
def yX3_append : MethodName := ⟨RX3, "append", "(IIII)I"⟩
abbrev cX3_removeAt : ByteArray := prog_5_method_5_code
def yX3_removeAt : MethodName := ⟨RX3, "removeAt", "(I)V"⟩
abbrev cX3_removeAllOf : ByteArray := prog_5_method_6_code
def yX3_removeAllOf : MethodName := ⟨RX3, "removeAllOf", "(I)I"⟩
abbrev cX3_areTied : ByteArray := prog_5_method_7_code
def yX3_areTied : MethodName := ⟨RX3, "areTied", "(II)Z"⟩
abbrev cX3_howManyAt : ByteArray := prog_5_method_8_code
def yX3_howManyAt : MethodName := ⟨RX3, "howManyAt", "(I)I"⟩
abbrev cX3_oneStringFurther : ByteArray := prog_5_method_9_code
def yX3_oneStringFurther : MethodName := ⟨RX3, "oneStringFurther", "(I)I"⟩
def RX4 : String := "StringVotes$Text"
def TX4 : u_T := fun k => match k with
  | 0 => ("StringVotes$Text", "characters", "LStringVotes$Row;", true)
  | 1 => ("StringVotes$Text", "length", "I", false)
  | 2 => ("StringVotes$Text", "letter", "I", false)
  | 3 => ("StringVotes$Text", "numbers", "LStringVotes$Row;", true)
  | _ => ("StringVotes$Text", "place", "I", false)
def tyX4 : Nat → FieldType := fun k => match k with
  | 0 => .object "StringVotes$Row"
  | 1 => .int
  | 2 => .int
  | 3 => .object "StringVotes$Row"
  | _ => .int
abbrev wsX40 : List Cond := u_ws RX4 TX4 5
theorem nmX4 : ∀ a, a < 5 → ∀ b, b < 5 → a ≠ b → (TX4 a).2.1 ≠ (TX4 b).2.1 := by decide +kernel
theorem tyX4_ok : ∀ k, k < 5 → parseFieldDescriptor (TX4 k).2.2.1 = some (tyX4 k) := by decide +kernel
abbrev cX4_init : ByteArray := prog_6_method_1_code
def yX4_init : MethodName := ⟨RX4, "<init>", "()V"⟩
abbrev cX4_append : ByteArray := prog_6_method_2_code
def yX4_append : MethodName := ⟨RX4, "append", "(I)Z"⟩
abbrev cX4_current : ByteArray := prog_6_method_3_code
def yX4_current : MethodName := ⟨RX4, "current", "()I"⟩
abbrev cX4_readOrder : ByteArray := prog_6_method_4_code
def yX4_readOrder : MethodName := ⟨RX4, "readOrder", "(I)Z"⟩
abbrev cX4_numbersBehind : ByteArray := prog_6_method_5_code
def yX4_numbersBehind : MethodName := ⟨RX4, "numbersBehind", "(I)I"⟩
abbrev cX4_skip : ByteArray := prog_6_method_6_code
def yX4_skip : MethodName := ⟨RX4, "skip", "(I)Z"⟩
abbrev cX4_readNumber : ByteArray := prog_6_method_7_code
def yX4_readNumber : MethodName := ⟨RX4, "readNumber", "(I)Z"⟩
abbrev cX4_isDigit : ByteArray := prog_6_method_8_code
def yX4_isDigit : MethodName := ⟨RX4, "isDigit", "(I)Z"⟩
def RX5 : String := "StringVotes$Turns"
def TX5 : u_T := fun k => match k with
  | 0 => ("StringVotes$Turns", "gains", "LStringVotes$Row;", true)
  | 1 => ("StringVotes$Turns", "groups", "I", false)
  | _ => ("StringVotes$Turns", "ahead", "I", false)
def tyX5 : Nat → FieldType := fun k => match k with
  | 0 => .object "StringVotes$Row"
  | 1 => .int
  | _ => .int
abbrev wsX50 : List Cond := u_ws RX5 TX5 3
theorem nmX5 : ∀ a, a < 3 → ∀ b, b < 3 → a ≠ b → (TX5 a).2.1 ≠ (TX5 b).2.1 := by decide +kernel
theorem tyX5_ok : ∀ k, k < 3 → parseFieldDescriptor (TX5 k).2.2.1 = some (tyX5 k) := by decide +kernel
abbrev cX5_init : ByteArray := prog_7_method_1_code
def yX5_init : MethodName := ⟨RX5, "<init>", "()V"⟩
abbrev cX5_collect : ByteArray := prog_7_method_2_code
def yX5_collect : MethodName := ⟨RX5, "collect", "(LStringVotes$Parliament;)V"⟩
abbrev cX5_fewestByTheBest : ByteArray := prog_7_method_3_code
def yX5_fewestByTheBest : MethodName := ⟨RX5, "fewestByTheBest", "()I"⟩
abbrev cX5_bestBut : ByteArray := prog_7_method_4_code
def yX5_bestBut : MethodName := ⟨RX5, "bestBut", "(I)I"⟩
abbrev cX5_fewestOfAllSets : ByteArray := prog_7_method_5_code
def yX5_fewestOfAllSets : MethodName := ⟨RX5, "fewestOfAllSets", "()I"⟩
abbrev cX5_stepTo : ByteArray := prog_7_method_6_code
def yX5_stepTo : MethodName := ⟨RX5, "stepTo", "(I)I"⟩
def RX6 : String := "StringVotes"
def TX6 : u_T := fun k => match k with
  | 0 => ("StringVotes", "now", "LStringVotes$Parliament;", true)
  | 1 => ("StringVotes", "trial", "LStringVotes$Parliament;", true)
  | 2 => ("StringVotes", "past", "[LStringVotes$Parliament;", true)
  | 3 => ("StringVotes", "oldestSlot", "I", false)
  | 4 => ("StringVotes", "states", "I", false)
  | 5 => ("StringVotes", "turns", "LStringVotes$Turns;", true)
  | 6 => ("StringVotes", "text", "LStringVotes$Text;", true)
  | 7 => ("StringVotes", "ordersDone", "I", false)
  | 8 => ("StringVotes", "faultPosition", "I", false)
  | 9 => ("StringVotes", "faultReason", "I", false)
  | _ => ("StringVotes", "faultCause", "I", false)
def tyX6 : Nat → FieldType := fun k => match k with
  | 0 => .object "StringVotes$Parliament"
  | 1 => .object "StringVotes$Parliament"
  | 2 => .array (.object "StringVotes$Parliament")
  | 3 => .int
  | 4 => .int
  | 5 => .object "StringVotes$Turns"
  | 6 => .object "StringVotes$Text"
  | 7 => .int
  | 8 => .int
  | 9 => .int
  | _ => .int
abbrev wsX60 : List Cond := u_ws RX6 TX6 11
theorem nmX6 : ∀ a, a < 11 → ∀ b, b < 11 → a ≠ b → (TX6 a).2.1 ≠ (TX6 b).2.1 := by decide +kernel
theorem tyX6_ok : ∀ k, k < 11 → parseFieldDescriptor (TX6 k).2.2.1 = some (tyX6 k) := by decide +kernel
abbrev cX6_init : ByteArray := prog_1_method_1_code
def yX6_init : MethodName := ⟨RX6, "<init>", "()V"⟩
abbrev cX6_puppet : ByteArray := prog_1_method_2_code
def yX6_puppet : MethodName := ⟨RX6, "puppet", "(II)I"⟩
abbrev cX6_tie : ByteArray := prog_1_method_3_code
def yX6_tie : MethodName := ⟨RX6, "tie", "(IIZI)I"⟩
abbrev cX6_cut : ByteArray := prog_1_method_4_code
def yX6_cut : MethodName := ⟨RX6, "cut", "(I)I"⟩
abbrev cX6_cutDeal : ByteArray := prog_1_method_5_code
def yX6_cutDeal : MethodName := ⟨RX6, "cutDeal", "(I)I"⟩
abbrev cX6_pull : ByteArray := prog_1_method_6_code
def yX6_pull : MethodName := ⟨RX6, "pull", "(II)I"⟩
abbrev cX6_release : ByteArray := prog_1_method_7_code
def yX6_release : MethodName := ⟨RX6, "release", "(I)I"⟩
abbrev cX6_session : ByteArray := prog_1_method_8_code
def yX6_session : MethodName := ⟨RX6, "session", "()I"⟩
abbrev cX6_set : ByteArray := prog_1_method_9_code
def yX6_set : MethodName := ⟨RX6, "set", "(II)I"⟩
abbrev cX6_puppetOf : ByteArray := prog_1_method_10_code
def yX6_puppetOf : MethodName := ⟨RX6, "puppetOf", "(II)I"⟩
abbrev cX6_stringOf : ByteArray := prog_1_method_11_code
def yX6_stringOf : MethodName := ⟨RX6, "stringOf", "(II)I"⟩
abbrev cX6_hangTogetherWithout : ByteArray := prog_1_method_12_code
def yX6_hangTogetherWithout : MethodName := ⟨RX6, "hangTogetherWithout", "(I)Z"⟩
abbrev cX6_between : ByteArray := prog_1_method_13_code
def yX6_between : MethodName := ⟨RX6, "between", "(II)I"⟩
abbrev cX6_book : ByteArray := prog_1_method_14_code
def yX6_book : MethodName := ⟨RX6, "book", "(II)I"⟩
abbrev cX6_whyTie : ByteArray := prog_1_method_15_code
def yX6_whyTie : MethodName := ⟨RX6, "whyTie", "(IIZ)I"⟩
abbrev cX6_whyPull : ByteArray := prog_1_method_16_code
def yX6_whyPull : MethodName := ⟨RX6, "whyPull", "(II)I"⟩
abbrev cX6_bestPull : ByteArray := prog_1_method_17_code
def yX6_bestPull : MethodName := ⟨RX6, "bestPull", "(I)I"⟩
abbrev cX6_seatsIfPulled : ByteArray := prog_1_method_18_code
def yX6_seatsIfPulled : MethodName := ⟨RX6, "seatsIfPulled", "(II)I"⟩
abbrev cX6_fewest : ByteArray := prog_1_method_19_code
def yX6_fewest : MethodName := ⟨RX6, "fewest", "(I)I"⟩
abbrev cX6_ifCut : ByteArray := prog_1_method_20_code
def yX6_ifCut : MethodName := ⟨RX6, "ifCut", "(II)I"⟩
abbrev cX6_share : ByteArray := prog_1_method_21_code
def yX6_share : MethodName := ⟨RX6, "share", "()I"⟩
abbrev cX6_bitsOf : ByteArray := prog_1_method_22_code
def yX6_bitsOf : MethodName := ⟨RX6, "bitsOf", "(F)I"⟩
abbrev cX6_count : ByteArray := prog_1_method_23_code
def yX6_count : MethodName := ⟨RX6, "count", "(I)I"⟩
abbrev cX6_undo : ByteArray := prog_1_method_24_code
def yX6_undo : MethodName := ⟨RX6, "undo", "()I"⟩
abbrev cX6_type : ByteArray := prog_1_method_25_code
def yX6_type : MethodName := ⟨RX6, "type", "(I)I"⟩
abbrev cX6_clearText : ByteArray := prog_1_method_26_code
def yX6_clearText : MethodName := ⟨RX6, "clearText", "()I"⟩
abbrev cX6_fault : ByteArray := prog_1_method_27_code
def yX6_fault : MethodName := ⟨RX6, "fault", "(I)I"⟩
abbrev cX6_play : ByteArray := prog_1_method_28_code
def yX6_play : MethodName := ⟨RX6, "play", "()I"⟩
abbrev cX6_tryOrders : ByteArray := prog_1_method_29_code
def yX6_tryOrders : MethodName := ⟨RX6, "tryOrders", "()Z"⟩
abbrev cX6_foundFault : ByteArray := prog_1_method_30_code
def yX6_foundFault : MethodName := ⟨RX6, "foundFault", "(III)Z"⟩
abbrev cX6_obey : ByteArray := prog_1_method_31_code
def yX6_obey : MethodName := ⟨RX6, "obey", "()I"⟩
abbrev cX6_settle : ByteArray := prog_1_method_32_code
def yX6_settle : MethodName := ⟨RX6, "settle", "(I)I"⟩
abbrev cX6_remember : ByteArray := prog_1_method_33_code
def yX6_remember : MethodName := ⟨RX6, "remember", "()V"⟩
abbrev cX6_pastState : ByteArray := prog_1_method_34_code
def yX6_pastState : MethodName := ⟨RX6, "pastState", "(I)LStringVotes$Parliament;"⟩
abbrev cX6_isError : ByteArray := prog_1_method_35_code
def yX6_isError : MethodName := ⟨RX6, "isError", "(I)Z"⟩
abbrev cX6_isIn : ByteArray := prog_1_method_36_code
def yX6_isIn : MethodName := ⟨RX6, "isIn", "(III)Z"⟩
abbrev cX6_isMember : ByteArray := prog_1_method_37_code
def yX6_isMember : MethodName := ⟨RX6, "isMember", "(II)Z"⟩
def RX7 : String := "StringVotesModel"
def TX7 : u_T := fun k => match k with
  | 0 => ("StringVotesModel", "s", "[I", true)
  | 1 => ("StringVotesModel", "past", "[I", true)
  | 2 => ("StringVotesModel", "held", "[I", true)
  | 3 => ("StringVotesModel", "pasts", "I", false)
  | 4 => ("StringVotesModel", "runs", "Z", false)
  | 5 => ("StringVotesModel", "text", "[I", true)
  | 6 => ("StringVotesModel", "typed", "I", false)
  | 7 => ("StringVotesModel", "low", "[I", true)
  | 8 => ("StringVotesModel", "side", "[I", true)
  | 9 => ("StringVotesModel", "vote", "[I", true)
  | 10 => ("StringVotesModel", "gain", "[I", true)
  | 11 => ("StringVotesModel", "spot", "I", false)
  | 12 => ("StringVotesModel", "from", "I", false)
  | 13 => ("StringVotesModel", "reason", "I", false)
  | 14 => ("StringVotesModel", "cause", "I", false)
  | 15 => ("StringVotesModel", "orders", "I", false)
  | 16 => ("StringVotesModel", "order", "I", false)
  | _ => ("StringVotesModel", "numbers", "[I", true)
def tyX7 : Nat → FieldType := fun k => match k with
  | 0 => .array .int
  | 1 => .array .int
  | 2 => .array .int
  | 3 => .int
  | 4 => .boolean
  | 5 => .array .int
  | 6 => .int
  | 7 => .array .int
  | 8 => .array .int
  | 9 => .array .int
  | 10 => .array .int
  | 11 => .int
  | 12 => .int
  | 13 => .int
  | 14 => .int
  | 15 => .int
  | 16 => .int
  | _ => .array .int
abbrev wsX70 : List Cond := u_ws RX7 TX7 18
theorem nmX7 : ∀ a, a < 18 → ∀ b, b < 18 → a ≠ b → (TX7 a).2.1 ≠ (TX7 b).2.1 := by decide +kernel
theorem tyX7_ok : ∀ k, k < 18 → parseFieldDescriptor (TX7 k).2.2.1 = some (tyX7 k) := by decide +kernel
abbrev cX7_init : ByteArray := prog_9_method_1_code
def yX7_init : MethodName := ⟨RX7, "<init>", "()V"⟩
abbrev cX7_in : ByteArray := prog_9_method_3_code
def yX7_in : MethodName := ⟨RX7, "in", "(III)Z"⟩
abbrev cX7_copies : ByteArray := prog_9_method_4_code
def yX7_copies : MethodName := ⟨RX7, "copies", "([I[I)V"⟩
abbrev cX7_changes : ByteArray := prog_9_method_5_code
def yX7_changes : MethodName := ⟨RX7, "changes", "()V"⟩
abbrev cX7_of : ByteArray := prog_9_method_6_code
def yX7_of : MethodName := ⟨RX7, "of", "(II)I"⟩
abbrev cX7_tied : ByteArray := prog_9_method_7_code
def yX7_tied : MethodName := ⟨RX7, "tied", "(II)I"⟩
abbrev cX7_isPuppet : ByteArray := prog_9_method_8_code
def yX7_isPuppet : MethodName := ⟨RX7, "isPuppet", "(I)Z"⟩
abbrev cX7_isString : ByteArray := prog_9_method_9_code
def yX7_isString : MethodName := ⟨RX7, "isString", "(I)Z"⟩
abbrev cX7_isPair : ByteArray := prog_9_method_10_code
def yX7_isPair : MethodName := ⟨RX7, "isPair", "(II)Z"⟩
abbrev cX7_looks : ByteArray := prog_9_method_11_code
def yX7_looks : MethodName := ⟨RX7, "looks", "(I)V"⟩
abbrev cX7_isJoined : ByteArray := prog_9_method_12_code
def yX7_isJoined : MethodName := ⟨RX7, "isJoined", "(III)Z"⟩
abbrev cX7_pulled : ByteArray := prog_9_method_13_code
def yX7_pulled : MethodName := ⟨RX7, "pulled", "(II)I"⟩
abbrev cX7_byLeanings : ByteArray := prog_9_method_14_code
def yX7_byLeanings : MethodName := ⟨RX7, "byLeanings", "(I)I"⟩
abbrev cX7_votes : ByteArray := prog_9_method_15_code
def yX7_votes : MethodName := ⟨RX7, "votes", "()I"⟩
abbrev cX7_yesNow : ByteArray := prog_9_method_16_code
def yX7_yesNow : MethodName := ⟨RX7, "yesNow", "()I"⟩
abbrev cX7_seats : ByteArray := prog_9_method_17_code
def yX7_seats : MethodName := ⟨RX7, "seats", "()I"⟩
abbrev cX7_groups : ByteArray := prog_9_method_18_code
def yX7_groups : MethodName := ⟨RX7, "groups", "()I"⟩
abbrev cX7_isPassed : ByteArray := prog_9_method_19_code
def yX7_isPassed : MethodName := ⟨RX7, "isPassed", "()Z"⟩
abbrev cX7_stringOfBoth : ByteArray := prog_9_method_20_code
def yX7_stringOfBoth : MethodName := ⟨RX7, "stringOfBoth", "(II)I"⟩
abbrev cX7_refused : ByteArray := prog_9_method_21_code
def yX7_refused : MethodName := ⟨RX7, "refused", "(III)I"⟩
abbrev cX7_whyTie : ByteArray := prog_9_method_22_code
def yX7_whyTie : MethodName := ⟨RX7, "whyTie", "(IIZ)I"⟩
abbrev cX7_puppet : ByteArray := prog_9_method_23_code
def yX7_puppet : MethodName := ⟨RX7, "puppet", "(II)I"⟩
abbrev cX7_tie : ByteArray := prog_9_method_24_code
def yX7_tie : MethodName := ⟨RX7, "tie", "(IIZI)I"⟩
abbrev cX7_cuts : ByteArray := prog_9_method_25_code
def yX7_cuts : MethodName := ⟨RX7, "cuts", "(I)V"⟩
abbrev cX7_cut : ByteArray := prog_9_method_26_code
def yX7_cut : MethodName := ⟨RX7, "cut", "(I)I"⟩
abbrev cX7_ofDeal : ByteArray := prog_9_method_27_code
def yX7_ofDeal : MethodName := ⟨RX7, "ofDeal", "(I)I"⟩
abbrev cX7_cutDeal : ByteArray := prog_9_method_28_code
def yX7_cutDeal : MethodName := ⟨RX7, "cutDeal", "(I)I"⟩
abbrev cX7_manyPulled : ByteArray := prog_9_method_29_code
def yX7_manyPulled : MethodName := ⟨RX7, "manyPulled", "(I)I"⟩
abbrev cX7_barred : ByteArray := prog_9_method_30_code
def yX7_barred : MethodName := ⟨RX7, "barred", "(II)I"⟩
abbrev cX7_whyPull : ByteArray := prog_9_method_31_code
def yX7_whyPull : MethodName := ⟨RX7, "whyPull", "(II)I"⟩
abbrev cX7_pull : ByteArray := prog_9_method_32_code
def yX7_pull : MethodName := ⟨RX7, "pull", "(II)I"⟩
abbrev cX7_release : ByteArray := prog_9_method_33_code
def yX7_release : MethodName := ⟨RX7, "release", "(I)I"⟩
abbrev cX7_session : ByteArray := prog_9_method_34_code
def yX7_session : MethodName := ⟨RX7, "session", "()I"⟩
abbrev cX7_set : ByteArray := prog_9_method_35_code
def yX7_set : MethodName := ⟨RX7, "set", "(II)I"⟩
abbrev cX7_tiesOf : ByteArray := prog_9_method_36_code
def yX7_tiesOf : MethodName := ⟨RX7, "tiesOf", "(I)I"⟩
abbrev cX7_groupOf : ByteArray := prog_9_method_37_code
def yX7_groupOf : MethodName := ⟨RX7, "groupOf", "(I)I"⟩
abbrev cX7_groupSeats : ByteArray := prog_9_method_38_code
def yX7_groupSeats : MethodName := ⟨RX7, "groupSeats", "(I)I"⟩
abbrev cX7_puppetOf : ByteArray := prog_9_method_39_code
def yX7_puppetOf : MethodName := ⟨RX7, "puppetOf", "(II)I"⟩
abbrev cX7_stringOf : ByteArray := prog_9_method_40_code
def yX7_stringOf : MethodName := ⟨RX7, "stringOf", "(II)I"⟩
abbrev cX7_reached : ByteArray := prog_9_method_41_code
def yX7_reached : MethodName := ⟨RX7, "reached", "(I)I"⟩
abbrev cX7_between : ByteArray := prog_9_method_42_code
def yX7_between : MethodName := ⟨RX7, "between", "(II)I"⟩
abbrev cX7_book : ByteArray := prog_9_method_43_code
def yX7_book : MethodName := ⟨RX7, "book", "(II)I"⟩
abbrev cX7_yesWith : ByteArray := prog_9_method_44_code
def yX7_yesWith : MethodName := ⟨RX7, "yesWith", "(II)I"⟩
abbrev cX7_bestPull : ByteArray := prog_9_method_45_code
def yX7_bestPull : MethodName := ⟨RX7, "bestPull", "(I)I"⟩
abbrev cX7_gains : ByteArray := prog_9_method_46_code
def yX7_gains : MethodName := ⟨RX7, "gains", "()I"⟩
abbrev cX7_greedy : ByteArray := prog_9_method_47_code
def yX7_greedy : MethodName := ⟨RX7, "greedy", "(II)I"⟩
abbrev cX7_bySets : ByteArray := prog_9_method_48_code
def yX7_bySets : MethodName := ⟨RX7, "bySets", "(II)I"⟩
abbrev cX7_fewest : ByteArray := prog_9_method_49_code
def yX7_fewest : MethodName := ⟨RX7, "fewest", "(I)I"⟩
abbrev cX7_ifCut : ByteArray := prog_9_method_50_code
def yX7_ifCut : MethodName := ⟨RX7, "ifCut", "(II)I"⟩
abbrev cX7_share : ByteArray := prog_9_method_51_code
def yX7_share : MethodName := ⟨RX7, "share", "()I"⟩
abbrev cX7_pulledSet : ByteArray := prog_9_method_52_code
def yX7_pulledSet : MethodName := ⟨RX7, "pulledSet", "()I"⟩
abbrev cX7_walked : ByteArray := prog_9_method_53_code
def yX7_walked : MethodName := ⟨RX7, "walked", "()I"⟩
abbrev cX7_count : ByteArray := prog_9_method_54_code
def yX7_count : MethodName := ⟨RX7, "count", "(I)I"⟩
abbrev cX7_undo : ByteArray := prog_9_method_55_code
def yX7_undo : MethodName := ⟨RX7, "undo", "()I"⟩
abbrev cX7_type : ByteArray := prog_9_method_56_code
def yX7_type : MethodName := ⟨RX7, "type", "(I)I"⟩
abbrev cX7_clearText : ByteArray := prog_9_method_57_code
def yX7_clearText : MethodName := ⟨RX7, "clearText", "()I"⟩
abbrev cX7_isAt : ByteArray := prog_9_method_58_code
def yX7_isAt : MethodName := ⟨RX7, "isAt", "(II)Z"⟩
abbrev cX7_sign : ByteArray := prog_9_method_59_code
def yX7_sign : MethodName := ⟨RX7, "sign", "(I)Z"⟩
abbrev cX7_numbered : ByteArray := prog_9_method_60_code
def yX7_numbered : MethodName := ⟨RX7, "numbered", "(I)Z"⟩
abbrev cX7_numbersOf : ByteArray := prog_9_method_61_code
def yX7_numbersOf : MethodName := ⟨RX7, "numbersOf", "(I)I"⟩
abbrev cX7_parses : ByteArray := prog_9_method_62_code
def yX7_parses : MethodName := ⟨RX7, "parses", "()Z"⟩
abbrev cX7_does : ByteArray := prog_9_method_63_code
def yX7_does : MethodName := ⟨RX7, "does", "()I"⟩
abbrev cX7_plays : ByteArray := prog_9_method_64_code
def yX7_plays : MethodName := ⟨RX7, "plays", "()Z"⟩
abbrev cX7_fault : ByteArray := prog_9_method_65_code
def yX7_fault : MethodName := ⟨RX7, "fault", "(I)I"⟩
abbrev cX7_play : ByteArray := prog_9_method_66_code
def yX7_play : MethodName := ⟨RX7, "play", "()I"⟩
def RJxf58ca : String := "java/lang/Float"
def TJxf58ca : u_T := fun k => match k with
  | _ => ("", "", "", false)
def tyJxf58ca : Nat → FieldType := fun k => match k with
  | _ => .int
abbrev wsJxf58ca0 : List Cond := u_ws RJxf58ca TJxf58ca 0
theorem nmJxf58ca : ∀ a, a < 0 → ∀ b, b < 0 → a ≠ b → (TJxf58ca a).2.1 ≠ (TJxf58ca b).2.1 := by decide +kernel
theorem tyJxf58ca_ok : ∀ k, k < 0 → parseFieldDescriptor (TJxf58ca k).2.2.1 = some (tyJxf58ca k) := by decide +kernel
abbrev cJxf58ca_isNaN_12338 : ByteArray := prog_10_method_6_code
def yJxf58ca_isNaN_12338 : MethodName := ⟨RJxf58ca, "isNaN", "(F)Z"⟩
abbrev cJxf58ca_floatToIntBits_5c35a : ByteArray := prog_10_method_24_code
def yJxf58ca_floatToIntBits_5c35a : MethodName := ⟨RJxf58ca, "floatToIntBits", "(F)I"⟩
def RJ6 : String := "java/lang/Integer"
def TJ6 : u_T := fun k => match k with
  | _ => ("", "", "", false)
def tyJ6 : Nat → FieldType := fun k => match k with
  | _ => .int
abbrev wsJ60 : List Cond := u_ws RJ6 TJ6 0
theorem nmJ6 : ∀ a, a < 0 → ∀ b, b < 0 → a ≠ b → (TJ6 a).2.1 ≠ (TJ6 b).2.1 := by decide +kernel
theorem tyJ6_ok : ∀ k, k < 0 → parseFieldDescriptor (TJ6 k).2.2.1 = some (tyJ6 k) := by decide +kernel
abbrev cJ6_bitCount_0f7a4 : ByteArray := prog_11_method_49_code
def yJ6_bitCount_0f7a4 : MethodName := ⟨RJ6, "bitCount", "(I)I"⟩
def RJ9 : String := "java/lang/Math"
def TJ9 : u_T := fun k => match k with
  | _ => ("", "", "", false)
def tyJ9 : Nat → FieldType := fun k => match k with
  | _ => .int
abbrev wsJ90 : List Cond := u_ws RJ9 TJ9 0
theorem nmJ9 : ∀ a, a < 0 → ∀ b, b < 0 → a ≠ b → (TJ9 a).2.1 ≠ (TJ9 b).2.1 := by decide +kernel
theorem tyJ9_ok : ∀ k, k < 0 → parseFieldDescriptor (TJ9 k).2.2.1 = some (tyJ9 k) := by decide +kernel
abbrev cJ9_max_7cf53 : ByteArray := prog_12_method_65_code
def yJ9_max_7cf53 : MethodName := ⟨RJ9, "max", "(II)I"⟩
abbrev cJ9_min_7cf53 : ByteArray := prog_12_method_69_code
def yJ9_min_7cf53 : MethodName := ⟨RJ9, "min", "(II)I"⟩
def RJ10 : String := "java/lang/System"
def TJ10 : u_T := fun k => match k with
  | _ => ("", "", "", false)
def tyJ10 : Nat → FieldType := fun k => match k with
  | _ => .int
abbrev wsJ100 : List Cond := u_ws RJ10 TJ10 0
theorem nmJ10 : ∀ a, a < 0 → ∀ b, b < 0 → a ≠ b → (TJ10 a).2.1 ≠ (TJ10 b).2.1 := by decide +kernel
theorem tyJ10_ok : ∀ k, k < 0 → parseFieldDescriptor (TJ10 k).2.2.1 = some (tyJ10 k) := by decide +kernel
def RL : String := "StringVotesLaw"
abbrev cL_law : ByteArray := code
def yL_law : MethodName := ⟨RL, "law", "([I)Z"⟩
abbrev vwCl : List vw_C := [(RX0, TX0, 3), (RX1, TX1, 13), (RX2, TX2, 1), (RX3, TX3, 6), (RX4, TX4, 5), (RX5, TX5, 3), (RX6, TX6, 11), (RX7, TX7, 18)]
/-- the words that hold at every method: the law's, but for those of nest mates -/
def ALL : List Cond := lw_tbl.filter goodWord
def nestW : Cond → Bool
  | .fieldLinkNest _ _ _ _ _ _ => true
  | .methodLinkNest _ _ _ _ => true
  | _ => false
def NST : List Cond := lw_tbl.filter nestW
theorem q_0 : Cond.selects RX1 yX1_copyFrom yX1_copyFrom ∈ ALL := List.mem_filter.mpr ⟨List.mem_of_getElem? (i := 0) (by decide +kernel), rfl⟩
theorem q_1 : Cond.selects RX2 yX2_copyFrom yX2_copyFrom ∈ ALL := List.mem_filter.mpr ⟨List.mem_of_getElem? (i := 1) (by decide +kernel), rfl⟩
theorem q_2 : Cond.selects RX3 yX3_copyFrom yX3_copyFrom ∈ ALL := List.mem_filter.mpr ⟨List.mem_of_getElem? (i := 2) (by decide +kernel), rfl⟩
theorem q_3 : Cond.selects RX0 yX0_copyFrom yX0_copyFrom ∈ ALL := List.mem_filter.mpr ⟨List.mem_of_getElem? (i := 3) (by decide +kernel), rfl⟩
theorem q_4 : Cond.selects RX1 yX1_addPuppet yX1_addPuppet ∈ ALL := List.mem_filter.mpr ⟨List.mem_of_getElem? (i := 4) (by decide +kernel), rfl⟩
theorem q_5 : Cond.selects RX2 yX2_put yX2_put ∈ ALL := List.mem_filter.mpr ⟨List.mem_of_getElem? (i := 5) (by decide +kernel), rfl⟩
theorem q_6 : Cond.selects RX1 yX1_tellGroups yX1_tellGroups ∈ ALL := List.mem_filter.mpr ⟨List.mem_of_getElem? (i := 6) (by decide +kernel), rfl⟩
theorem q_7 : Cond.selects RX1 yX1_joinBy yX1_joinBy ∈ ALL := List.mem_filter.mpr ⟨List.mem_of_getElem? (i := 7) (by decide +kernel), rfl⟩
theorem q_8 : Cond.selects RX2 yX2_get yX2_get ∈ ALL := List.mem_filter.mpr ⟨List.mem_of_getElem? (i := 8) (by decide +kernel), rfl⟩
theorem q_9 : Cond.selects RX1 yX1_tellVotes yX1_tellVotes ∈ ALL := List.mem_filter.mpr ⟨List.mem_of_getElem? (i := 9) (by decide +kernel), rfl⟩
theorem q_10 : Cond.selects RX1 yX1_pulledVote yX1_pulledVote ∈ ALL := List.mem_filter.mpr ⟨List.mem_of_getElem? (i := 10) (by decide +kernel), rfl⟩
theorem q_11 : Cond.selects RX1 yX1_leadingVote yX1_leadingVote ∈ ALL := List.mem_filter.mpr ⟨List.mem_of_getElem? (i := 11) (by decide +kernel), rfl⟩
theorem q_12 : Cond.selects RX6 yX6_settle yX6_settle ∈ ALL := List.mem_filter.mpr ⟨List.mem_of_getElem? (i := 12) (by decide +kernel), rfl⟩
theorem q_13 : Cond.selects RX6 yX6_remember yX6_remember ∈ ALL := List.mem_filter.mpr ⟨List.mem_of_getElem? (i := 13) (by decide +kernel), rfl⟩
theorem q_14 : Cond.selects RX6 yX6_pastState yX6_pastState ∈ ALL := List.mem_filter.mpr ⟨List.mem_of_getElem? (i := 14) (by decide +kernel), rfl⟩
theorem q_15 : Cond.selects RX1 yX1_addString yX1_addString ∈ ALL := List.mem_filter.mpr ⟨List.mem_of_getElem? (i := 15) (by decide +kernel), rfl⟩
theorem q_16 : Cond.selects RX1 yX1_arePair yX1_arePair ∈ ALL := List.mem_filter.mpr ⟨List.mem_of_getElem? (i := 16) (by decide +kernel), rfl⟩
theorem q_17 : Cond.selects RX1 yX1_hasPuppet yX1_hasPuppet ∈ ALL := List.mem_filter.mpr ⟨List.mem_of_getElem? (i := 17) (by decide +kernel), rfl⟩
theorem q_18 : Cond.selects RX1 yX1_reasonAgainstString yX1_reasonAgainstString ∈ ALL := List.mem_filter.mpr ⟨List.mem_of_getElem? (i := 18) (by decide +kernel), rfl⟩
theorem q_19 : Cond.selects RX3 yX3_areTied yX3_areTied ∈ ALL := List.mem_filter.mpr ⟨List.mem_of_getElem? (i := 19) (by decide +kernel), rfl⟩
theorem q_20 : Cond.selects RX1 yX1_hangTogether yX1_hangTogether ∈ ALL := List.mem_filter.mpr ⟨List.mem_of_getElem? (i := 20) (by decide +kernel), rfl⟩
theorem q_21 : Cond.selects RX3 yX3_append yX3_append ∈ ALL := List.mem_filter.mpr ⟨List.mem_of_getElem? (i := 21) (by decide +kernel), rfl⟩
theorem q_22 : Cond.selects RX1 yX1_cutString yX1_cutString ∈ ALL := List.mem_filter.mpr ⟨List.mem_of_getElem? (i := 22) (by decide +kernel), rfl⟩
theorem q_23 : Cond.selects RX3 yX3_has yX3_has ∈ ALL := List.mem_filter.mpr ⟨List.mem_of_getElem? (i := 23) (by decide +kernel), rfl⟩
theorem q_24 : Cond.selects RX3 yX3_removeAt yX3_removeAt ∈ ALL := List.mem_filter.mpr ⟨List.mem_of_getElem? (i := 24) (by decide +kernel), rfl⟩
theorem q_25 : Cond.selects RX2 yX2_removeAt yX2_removeAt ∈ ALL := List.mem_filter.mpr ⟨List.mem_of_getElem? (i := 25) (by decide +kernel), rfl⟩
theorem q_26 : Cond.selects RX1 yX1_cutStringsOf yX1_cutStringsOf ∈ ALL := List.mem_filter.mpr ⟨List.mem_of_getElem? (i := 26) (by decide +kernel), rfl⟩
theorem q_27 : Cond.selects RX3 yX3_removeAllOf yX3_removeAllOf ∈ ALL := List.mem_filter.mpr ⟨List.mem_of_getElem? (i := 27) (by decide +kernel), rfl⟩
theorem q_28 : Cond.selects RX1 yX1_pullTo yX1_pullTo ∈ ALL := List.mem_filter.mpr ⟨List.mem_of_getElem? (i := 28) (by decide +kernel), rfl⟩
theorem q_29 : Cond.selects RX1 yX1_reasonAgainstPull yX1_reasonAgainstPull ∈ ALL := List.mem_filter.mpr ⟨List.mem_of_getElem? (i := 29) (by decide +kernel), rfl⟩
theorem q_30 : Cond.selects RX1 yX1_isPulled yX1_isPulled ∈ ALL := List.mem_filter.mpr ⟨List.mem_of_getElem? (i := 30) (by decide +kernel), rfl⟩
theorem q_31 : Cond.selects RX1 yX1_letGo yX1_letGo ∈ ALL := List.mem_filter.mpr ⟨List.mem_of_getElem? (i := 31) (by decide +kernel), rfl⟩
theorem q_32 : Cond.selects RX1 yX1_holdSession yX1_holdSession ∈ ALL := List.mem_filter.mpr ⟨List.mem_of_getElem? (i := 32) (by decide +kernel), rfl⟩
theorem q_33 : Cond.selects RX1 yX1_wouldPass yX1_wouldPass ∈ ALL := List.mem_filter.mpr ⟨List.mem_of_getElem? (i := 33) (by decide +kernel), rfl⟩
theorem q_34 : Cond.selects RX0 yX0_enter yX0_enter ∈ ALL := List.mem_filter.mpr ⟨List.mem_of_getElem? (i := 34) (by decide +kernel), rfl⟩
theorem q_35 : Cond.selects RX1 yX1_bindPulls yX1_bindPulls ∈ ALL := List.mem_filter.mpr ⟨List.mem_of_getElem? (i := 35) (by decide +kernel), rfl⟩
theorem q_36 : Cond.selects RX3 yX3_howManyAt yX3_howManyAt ∈ ALL := List.mem_filter.mpr ⟨List.mem_of_getElem? (i := 36) (by decide +kernel), rfl⟩
theorem q_37 : Cond.selects RX1 yX1_membersOf yX1_membersOf ∈ ALL := List.mem_filter.mpr ⟨List.mem_of_getElem? (i := 37) (by decide +kernel), rfl⟩
theorem q_38 : Cond.selects RX1 yX1_seatsIn yX1_seatsIn ∈ ALL := List.mem_filter.mpr ⟨List.mem_of_getElem? (i := 38) (by decide +kernel), rfl⟩
theorem q_39 : Cond.selects RX6 yX6_hangTogetherWithout yX6_hangTogetherWithout ∈ ALL := List.mem_filter.mpr ⟨List.mem_of_getElem? (i := 39) (by decide +kernel), rfl⟩
theorem q_40 : Cond.selects RX3 yX3_oneStringFurther yX3_oneStringFurther ∈ ALL := List.mem_filter.mpr ⟨List.mem_of_getElem? (i := 40) (by decide +kernel), rfl⟩
theorem q_41 : Cond.selects RX0 yX0_kept yX0_kept ∈ ALL := List.mem_filter.mpr ⟨List.mem_of_getElem? (i := 41) (by decide +kernel), rfl⟩
theorem q_42 : Cond.selects RX0 yX0_entry yX0_entry ∈ ALL := List.mem_filter.mpr ⟨List.mem_of_getElem? (i := 42) (by decide +kernel), rfl⟩
theorem q_43 : Cond.selects RX6 yX6_seatsIfPulled yX6_seatsIfPulled ∈ ALL := List.mem_filter.mpr ⟨List.mem_of_getElem? (i := 43) (by decide +kernel), rfl⟩
theorem q_44 : Cond.selects RX5 yX5_collect yX5_collect ∈ ALL := List.mem_filter.mpr ⟨List.mem_of_getElem? (i := 44) (by decide +kernel), rfl⟩
theorem q_45 : Cond.selects RX1 yX1_yesVoters yX1_yesVoters ∈ ALL := List.mem_filter.mpr ⟨List.mem_of_getElem? (i := 45) (by decide +kernel), rfl⟩
theorem q_46 : Cond.selects RX5 yX5_fewestByTheBest yX5_fewestByTheBest ∈ ALL := List.mem_filter.mpr ⟨List.mem_of_getElem? (i := 46) (by decide +kernel), rfl⟩
theorem q_47 : Cond.selects RX5 yX5_bestBut yX5_bestBut ∈ ALL := List.mem_filter.mpr ⟨List.mem_of_getElem? (i := 47) (by decide +kernel), rfl⟩
theorem q_48 : Cond.selects RX5 yX5_fewestOfAllSets yX5_fewestOfAllSets ∈ ALL := List.mem_filter.mpr ⟨List.mem_of_getElem? (i := 48) (by decide +kernel), rfl⟩
theorem q_49 : Cond.selects RX5 yX5_stepTo yX5_stepTo ∈ ALL := List.mem_filter.mpr ⟨List.mem_of_getElem? (i := 49) (by decide +kernel), rfl⟩
theorem q_50 : Cond.selects RX1 yX1_groupsByJoining yX1_groupsByJoining ∈ ALL := List.mem_filter.mpr ⟨List.mem_of_getElem? (i := 50) (by decide +kernel), rfl⟩
theorem q_51 : Cond.selects RX1 yX1_groupsByWalking yX1_groupsByWalking ∈ ALL := List.mem_filter.mpr ⟨List.mem_of_getElem? (i := 51) (by decide +kernel), rfl⟩
theorem q_52 : Cond.selects RX1 yX1_walkFrom yX1_walkFrom ∈ ALL := List.mem_filter.mpr ⟨List.mem_of_getElem? (i := 52) (by decide +kernel), rfl⟩
theorem q_53 : Cond.selects RX1 yX1_pulledPuppets yX1_pulledPuppets ∈ ALL := List.mem_filter.mpr ⟨List.mem_of_getElem? (i := 53) (by decide +kernel), rfl⟩
theorem q_54 : Cond.selects RX4 yX4_append yX4_append ∈ ALL := List.mem_filter.mpr ⟨List.mem_of_getElem? (i := 54) (by decide +kernel), rfl⟩
theorem q_55 : Cond.selects RX6 yX6_tryOrders yX6_tryOrders ∈ ALL := List.mem_filter.mpr ⟨List.mem_of_getElem? (i := 55) (by decide +kernel), rfl⟩
theorem q_56 : Cond.selects RX4 yX4_readOrder yX4_readOrder ∈ ALL := List.mem_filter.mpr ⟨List.mem_of_getElem? (i := 56) (by decide +kernel), rfl⟩
theorem q_57 : Cond.selects RX4 yX4_current yX4_current ∈ ALL := List.mem_filter.mpr ⟨List.mem_of_getElem? (i := 57) (by decide +kernel), rfl⟩
theorem q_58 : Cond.selects RX4 yX4_skip yX4_skip ∈ ALL := List.mem_filter.mpr ⟨List.mem_of_getElem? (i := 58) (by decide +kernel), rfl⟩
theorem q_59 : Cond.selects RX4 yX4_readNumber yX4_readNumber ∈ ALL := List.mem_filter.mpr ⟨List.mem_of_getElem? (i := 59) (by decide +kernel), rfl⟩
theorem q_60 : Cond.selects RX6 yX6_foundFault yX6_foundFault ∈ ALL := List.mem_filter.mpr ⟨List.mem_of_getElem? (i := 60) (by decide +kernel), rfl⟩
theorem q_61 : Cond.selects RX6 yX6_obey yX6_obey ∈ ALL := List.mem_filter.mpr ⟨List.mem_of_getElem? (i := 61) (by decide +kernel), rfl⟩
theorem q_62 : Cond.selects RX7 yX7_isPair yX7_isPair ∈ ALL := List.mem_filter.mpr ⟨List.mem_of_getElem? (i := 62) (by decide +kernel), rfl⟩
theorem q_63 : Cond.selects RX7 yX7_isPuppet yX7_isPuppet ∈ ALL := List.mem_filter.mpr ⟨List.mem_of_getElem? (i := 63) (by decide +kernel), rfl⟩
theorem q_64 : Cond.selects RX7 yX7_refused yX7_refused ∈ ALL := List.mem_filter.mpr ⟨List.mem_of_getElem? (i := 64) (by decide +kernel), rfl⟩
theorem q_65 : Cond.selects RX7 yX7_stringOfBoth yX7_stringOfBoth ∈ ALL := List.mem_filter.mpr ⟨List.mem_of_getElem? (i := 65) (by decide +kernel), rfl⟩
theorem q_66 : Cond.selects RX7 yX7_tied yX7_tied ∈ ALL := List.mem_filter.mpr ⟨List.mem_of_getElem? (i := 66) (by decide +kernel), rfl⟩
theorem q_67 : Cond.selects RX7 yX7_looks yX7_looks ∈ ALL := List.mem_filter.mpr ⟨List.mem_of_getElem? (i := 67) (by decide +kernel), rfl⟩
theorem q_68 : Cond.selects RX7 yX7_isJoined yX7_isJoined ∈ ALL := List.mem_filter.mpr ⟨List.mem_of_getElem? (i := 68) (by decide +kernel), rfl⟩
theorem q_69 : Cond.selects RX7 yX7_pulled yX7_pulled ∈ ALL := List.mem_filter.mpr ⟨List.mem_of_getElem? (i := 69) (by decide +kernel), rfl⟩
theorem q_70 : Cond.selects RX7 yX7_of yX7_of ∈ ALL := List.mem_filter.mpr ⟨List.mem_of_getElem? (i := 70) (by decide +kernel), rfl⟩
theorem q_71 : Cond.selects RX7 yX7_changes yX7_changes ∈ ALL := List.mem_filter.mpr ⟨List.mem_of_getElem? (i := 71) (by decide +kernel), rfl⟩
theorem q_72 : Cond.selects RX7 yX7_isString yX7_isString ∈ ALL := List.mem_filter.mpr ⟨List.mem_of_getElem? (i := 72) (by decide +kernel), rfl⟩
theorem q_73 : Cond.selects RX7 yX7_cuts yX7_cuts ∈ ALL := List.mem_filter.mpr ⟨List.mem_of_getElem? (i := 73) (by decide +kernel), rfl⟩
theorem q_74 : Cond.selects RX7 yX7_ofDeal yX7_ofDeal ∈ ALL := List.mem_filter.mpr ⟨List.mem_of_getElem? (i := 74) (by decide +kernel), rfl⟩
theorem q_75 : Cond.selects RX7 yX7_barred yX7_barred ∈ ALL := List.mem_filter.mpr ⟨List.mem_of_getElem? (i := 75) (by decide +kernel), rfl⟩
theorem q_76 : Cond.selects RX7 yX7_manyPulled yX7_manyPulled ∈ ALL := List.mem_filter.mpr ⟨List.mem_of_getElem? (i := 76) (by decide +kernel), rfl⟩
theorem q_77 : Cond.selects RX7 yX7_yesNow yX7_yesNow ∈ ALL := List.mem_filter.mpr ⟨List.mem_of_getElem? (i := 77) (by decide +kernel), rfl⟩
theorem q_78 : Cond.selects RX7 yX7_votes yX7_votes ∈ ALL := List.mem_filter.mpr ⟨List.mem_of_getElem? (i := 78) (by decide +kernel), rfl⟩
theorem q_79 : Cond.selects RX7 yX7_byLeanings yX7_byLeanings ∈ ALL := List.mem_filter.mpr ⟨List.mem_of_getElem? (i := 79) (by decide +kernel), rfl⟩
theorem q_80 : Cond.selects RX7 yX7_isPassed yX7_isPassed ∈ ALL := List.mem_filter.mpr ⟨List.mem_of_getElem? (i := 80) (by decide +kernel), rfl⟩
theorem q_81 : Cond.selects RX7 yX7_seats yX7_seats ∈ ALL := List.mem_filter.mpr ⟨List.mem_of_getElem? (i := 81) (by decide +kernel), rfl⟩
theorem q_82 : Cond.selects RX7 yX7_tiesOf yX7_tiesOf ∈ ALL := List.mem_filter.mpr ⟨List.mem_of_getElem? (i := 82) (by decide +kernel), rfl⟩
theorem q_83 : Cond.selects RX7 yX7_groupOf yX7_groupOf ∈ ALL := List.mem_filter.mpr ⟨List.mem_of_getElem? (i := 83) (by decide +kernel), rfl⟩
theorem q_84 : Cond.selects RX7 yX7_groupSeats yX7_groupSeats ∈ ALL := List.mem_filter.mpr ⟨List.mem_of_getElem? (i := 84) (by decide +kernel), rfl⟩
theorem q_85 : Cond.selects RX7 yX7_reached yX7_reached ∈ ALL := List.mem_filter.mpr ⟨List.mem_of_getElem? (i := 85) (by decide +kernel), rfl⟩
theorem q_86 : Cond.selects RX7 yX7_yesWith yX7_yesWith ∈ ALL := List.mem_filter.mpr ⟨List.mem_of_getElem? (i := 86) (by decide +kernel), rfl⟩
theorem q_87 : Cond.selects RX7 yX7_gains yX7_gains ∈ ALL := List.mem_filter.mpr ⟨List.mem_of_getElem? (i := 87) (by decide +kernel), rfl⟩
theorem q_88 : Cond.selects RX7 yX7_greedy yX7_greedy ∈ ALL := List.mem_filter.mpr ⟨List.mem_of_getElem? (i := 88) (by decide +kernel), rfl⟩
theorem q_89 : Cond.selects RX7 yX7_bySets yX7_bySets ∈ ALL := List.mem_filter.mpr ⟨List.mem_of_getElem? (i := 89) (by decide +kernel), rfl⟩
theorem q_90 : Cond.selects RX7 yX7_groups yX7_groups ∈ ALL := List.mem_filter.mpr ⟨List.mem_of_getElem? (i := 90) (by decide +kernel), rfl⟩
theorem q_91 : Cond.selects RX7 yX7_walked yX7_walked ∈ ALL := List.mem_filter.mpr ⟨List.mem_of_getElem? (i := 91) (by decide +kernel), rfl⟩
theorem q_92 : Cond.selects RX7 yX7_pulledSet yX7_pulledSet ∈ ALL := List.mem_filter.mpr ⟨List.mem_of_getElem? (i := 92) (by decide +kernel), rfl⟩
theorem q_93 : Cond.selects RX7 yX7_plays yX7_plays ∈ ALL := List.mem_filter.mpr ⟨List.mem_of_getElem? (i := 93) (by decide +kernel), rfl⟩
theorem q_94 : Cond.selects RX7 yX7_parses yX7_parses ∈ ALL := List.mem_filter.mpr ⟨List.mem_of_getElem? (i := 94) (by decide +kernel), rfl⟩
theorem q_95 : Cond.selects RX7 yX7_isAt yX7_isAt ∈ ALL := List.mem_filter.mpr ⟨List.mem_of_getElem? (i := 95) (by decide +kernel), rfl⟩
theorem q_96 : Cond.selects RX7 yX7_numbered yX7_numbered ∈ ALL := List.mem_filter.mpr ⟨List.mem_of_getElem? (i := 96) (by decide +kernel), rfl⟩
theorem q_97 : Cond.selects RX7 yX7_sign yX7_sign ∈ ALL := List.mem_filter.mpr ⟨List.mem_of_getElem? (i := 97) (by decide +kernel), rfl⟩
theorem q_98 : Cond.selects RX7 yX7_does yX7_does ∈ ALL := List.mem_filter.mpr ⟨List.mem_of_getElem? (i := 98) (by decide +kernel), rfl⟩
theorem q_99 : Cond.initialized RL ∈ ALL := List.mem_filter.mpr ⟨List.mem_of_getElem? (i := 99) (by decide +kernel), rfl⟩
theorem q_100 : Cond.initialized RX6 ∈ ALL := List.mem_filter.mpr ⟨List.mem_of_getElem? (i := 100) (by decide +kernel), rfl⟩
theorem q_101 : Cond.initialized RX1 ∈ ALL := List.mem_filter.mpr ⟨List.mem_of_getElem? (i := 101) (by decide +kernel), rfl⟩
theorem q_102 : Cond.initialized RX2 ∈ ALL := List.mem_filter.mpr ⟨List.mem_of_getElem? (i := 102) (by decide +kernel), rfl⟩
theorem q_103 : Cond.initialized RJ9 ∈ ALL := List.mem_filter.mpr ⟨List.mem_of_getElem? (i := 103) (by decide +kernel), rfl⟩
theorem q_104 : Cond.initialized RX3 ∈ ALL := List.mem_filter.mpr ⟨List.mem_of_getElem? (i := 104) (by decide +kernel), rfl⟩
theorem q_105 : Cond.initialized RX0 ∈ ALL := List.mem_filter.mpr ⟨List.mem_of_getElem? (i := 105) (by decide +kernel), rfl⟩
theorem q_106 : Cond.initialized RX5 ∈ ALL := List.mem_filter.mpr ⟨List.mem_of_getElem? (i := 106) (by decide +kernel), rfl⟩
theorem q_107 : Cond.initialized RX4 ∈ ALL := List.mem_filter.mpr ⟨List.mem_of_getElem? (i := 107) (by decide +kernel), rfl⟩
theorem q_108 : Cond.initialized RX7 ∈ ALL := List.mem_filter.mpr ⟨List.mem_of_getElem? (i := 108) (by decide +kernel), rfl⟩
theorem q_109 : Cond.initialized RJ10 ∈ ALL := List.mem_filter.mpr ⟨List.mem_of_getElem? (i := 109) (by decide +kernel), rfl⟩
theorem q_110 : Cond.initialized RJ6 ∈ ALL := List.mem_filter.mpr ⟨List.mem_of_getElem? (i := 110) (by decide +kernel), rfl⟩
theorem q_111 : Cond.initialized RJxf58ca ∈ ALL := List.mem_filter.mpr ⟨List.mem_of_getElem? (i := 111) (by decide +kernel), rfl⟩
theorem q_112 : Cond.classLink RL 7 RX6 ∈ ALL := List.mem_filter.mpr ⟨List.mem_of_getElem? (i := 112) (by decide +kernel), rfl⟩
theorem q_113 : Cond.instantiable RX6 11 ∈ ALL := List.mem_filter.mpr ⟨List.mem_of_getElem? (i := 113) (by decide +kernel), rfl⟩
theorem q_114 : Cond.methodLink RL 9 yX6_init ∈ ALL := List.mem_filter.mpr ⟨List.mem_of_getElem? (i := 114) (by decide +kernel), rfl⟩
theorem q_115 : Cond.instanceMethod yX6_init ∈ ALL := List.mem_filter.mpr ⟨List.mem_of_getElem? (i := 115) (by decide +kernel), rfl⟩
theorem q_116 : Cond.code yX6_init cX6_init 2 none ∈ ALL := List.mem_filter.mpr ⟨List.mem_of_getElem? (i := 116) (by decide +kernel), rfl⟩
theorem q_117 : Cond.methodLink RX6 1 objectInit ∈ ALL := List.mem_filter.mpr ⟨List.mem_of_getElem? (i := 117) (by decide +kernel), rfl⟩
theorem q_118 : Cond.instanceMethod objectInit ∈ ALL := List.mem_filter.mpr ⟨List.mem_of_getElem? (i := 118) (by decide +kernel), rfl⟩
theorem q_119 : Cond.code objectInit ⟨#[0xb1]⟩ 1 none ∈ ALL := List.mem_filter.mpr ⟨List.mem_of_getElem? (i := 119) (by decide +kernel), rfl⟩
theorem q_120 : Cond.classLink RX6 7 RX1 ∈ ALL := List.mem_filter.mpr ⟨List.mem_of_getElem? (i := 120) (by decide +kernel), rfl⟩
theorem q_121 : Cond.instantiable RX1 13 ∈ ALL := List.mem_filter.mpr ⟨List.mem_of_getElem? (i := 121) (by decide +kernel), rfl⟩
theorem q_122 : Cond.methodLinkNest RX6 9 yX1_init RX6 ∈ NST := List.mem_filter.mpr ⟨List.mem_of_getElem? (i := 122) (by decide +kernel), rfl⟩
theorem q_123 : Cond.instanceMethod yX1_init ∈ ALL := List.mem_filter.mpr ⟨List.mem_of_getElem? (i := 123) (by decide +kernel), rfl⟩
theorem q_124 : Cond.code yX1_init cX1_init 1 none ∈ ALL := List.mem_filter.mpr ⟨List.mem_of_getElem? (i := 124) (by decide +kernel), rfl⟩
theorem q_125 : Cond.methodLink RX1 3 objectInit ∈ ALL := List.mem_filter.mpr ⟨List.mem_of_getElem? (i := 125) (by decide +kernel), rfl⟩
theorem q_126 : Cond.classLink RX1 9 RX2 ∈ ALL := List.mem_filter.mpr ⟨List.mem_of_getElem? (i := 126) (by decide +kernel), rfl⟩
theorem q_127 : Cond.instantiable RX2 1 ∈ ALL := List.mem_filter.mpr ⟨List.mem_of_getElem? (i := 127) (by decide +kernel), rfl⟩
theorem q_128 : Cond.methodLinkNest RX1 11 yX2_init RX6 ∈ NST := List.mem_filter.mpr ⟨List.mem_of_getElem? (i := 128) (by decide +kernel), rfl⟩
theorem q_129 : Cond.instanceMethod yX2_init ∈ ALL := List.mem_filter.mpr ⟨List.mem_of_getElem? (i := 129) (by decide +kernel), rfl⟩
theorem q_130 : Cond.code yX2_init cX2_init 2 none ∈ ALL := List.mem_filter.mpr ⟨List.mem_of_getElem? (i := 130) (by decide +kernel), rfl⟩
theorem q_131 : Cond.methodLink RX2 1 objectInit ∈ ALL := List.mem_filter.mpr ⟨List.mem_of_getElem? (i := 131) (by decide +kernel), rfl⟩
theorem q_132 : Cond.methodLink RX2 7 yJ9_max_7cf53 ∈ ALL := List.mem_filter.mpr ⟨List.mem_of_getElem? (i := 132) (by decide +kernel), rfl⟩
theorem q_133 : Cond.static yJ9_max_7cf53 ∈ ALL := List.mem_filter.mpr ⟨List.mem_of_getElem? (i := 133) (by decide +kernel), rfl⟩
theorem q_134 : Cond.code yJ9_max_7cf53 cJ9_max_7cf53 2 (some .int) ∈ ALL := List.mem_filter.mpr ⟨List.mem_of_getElem? (i := 134) (by decide +kernel), rfl⟩
theorem q_135 : Cond.fieldLink RX2 13 "StringVotes$Row" "cells" "[I" ∈ ALL := List.mem_filter.mpr ⟨List.mem_of_getElem? (i := 135) (by decide +kernel), rfl⟩
theorem q_139 : Cond.arrayClass .int ∈ ALL := List.mem_filter.mpr ⟨List.mem_of_getElem? (i := 139) (by decide +kernel), rfl⟩
theorem q_140 : Cond.classLink RX1 35 RX3 ∈ ALL := List.mem_filter.mpr ⟨List.mem_of_getElem? (i := 140) (by decide +kernel), rfl⟩
theorem q_141 : Cond.instantiable RX3 6 ∈ ALL := List.mem_filter.mpr ⟨List.mem_of_getElem? (i := 141) (by decide +kernel), rfl⟩
theorem q_142 : Cond.methodLinkNest RX1 37 yX3_init RX6 ∈ NST := List.mem_filter.mpr ⟨List.mem_of_getElem? (i := 142) (by decide +kernel), rfl⟩
theorem q_143 : Cond.instanceMethod yX3_init ∈ ALL := List.mem_filter.mpr ⟨List.mem_of_getElem? (i := 143) (by decide +kernel), rfl⟩
theorem q_144 : Cond.code yX3_init cX3_init 1 none ∈ ALL := List.mem_filter.mpr ⟨List.mem_of_getElem? (i := 144) (by decide +kernel), rfl⟩
theorem q_145 : Cond.methodLink RX3 3 objectInit ∈ ALL := List.mem_filter.mpr ⟨List.mem_of_getElem? (i := 145) (by decide +kernel), rfl⟩
theorem q_146 : Cond.classLink RX3 9 RX2 ∈ ALL := List.mem_filter.mpr ⟨List.mem_of_getElem? (i := 146) (by decide +kernel), rfl⟩
theorem q_147 : Cond.methodLinkNest RX3 11 yX2_init RX6 ∈ NST := List.mem_filter.mpr ⟨List.mem_of_getElem? (i := 147) (by decide +kernel), rfl⟩
theorem q_148 : Cond.fieldLink RX3 14 "StringVotes$Strings" "lower" "LStringVotes$Row;" ∈ ALL := List.mem_filter.mpr ⟨List.mem_of_getElem? (i := 148) (by decide +kernel), rfl⟩
theorem q_149 : Cond.fieldLinkNest RX6 123 "StringVotes$Strings" "lower" "LStringVotes$Row;" RX6 ∈ NST := List.mem_filter.mpr ⟨List.mem_of_getElem? (i := 149) (by decide +kernel), rfl⟩
theorem q_150 : Cond.fieldLinkNest RX1 145 "StringVotes$Strings" "lower" "LStringVotes$Row;" RX6 ∈ NST := List.mem_filter.mpr ⟨List.mem_of_getElem? (i := 150) (by decide +kernel), rfl⟩
theorem q_151 : Cond.fieldLink RX3 20 "StringVotes$Strings" "upper" "LStringVotes$Row;" ∈ ALL := List.mem_filter.mpr ⟨List.mem_of_getElem? (i := 151) (by decide +kernel), rfl⟩
theorem q_152 : Cond.fieldLinkNest RX6 126 "StringVotes$Strings" "upper" "LStringVotes$Row;" RX6 ∈ NST := List.mem_filter.mpr ⟨List.mem_of_getElem? (i := 152) (by decide +kernel), rfl⟩
theorem q_153 : Cond.fieldLinkNest RX1 148 "StringVotes$Strings" "upper" "LStringVotes$Row;" RX6 ∈ NST := List.mem_filter.mpr ⟨List.mem_of_getElem? (i := 153) (by decide +kernel), rfl⟩
theorem q_154 : Cond.fieldLink RX3 23 "StringVotes$Strings" "unlike" "LStringVotes$Row;" ∈ ALL := List.mem_filter.mpr ⟨List.mem_of_getElem? (i := 154) (by decide +kernel), rfl⟩
theorem q_155 : Cond.fieldLinkNest RX6 129 "StringVotes$Strings" "unlike" "LStringVotes$Row;" RX6 ∈ NST := List.mem_filter.mpr ⟨List.mem_of_getElem? (i := 155) (by decide +kernel), rfl⟩
theorem q_156 : Cond.fieldLinkNest RX1 159 "StringVotes$Strings" "unlike" "LStringVotes$Row;" RX6 ∈ NST := List.mem_filter.mpr ⟨List.mem_of_getElem? (i := 156) (by decide +kernel), rfl⟩
theorem q_157 : Cond.fieldLink RX3 26 "StringVotes$Strings" "deal" "LStringVotes$Row;" ∈ ALL := List.mem_filter.mpr ⟨List.mem_of_getElem? (i := 157) (by decide +kernel), rfl⟩
theorem q_158 : Cond.fieldLinkNest RX6 132 "StringVotes$Strings" "deal" "LStringVotes$Row;" RX6 ∈ NST := List.mem_filter.mpr ⟨List.mem_of_getElem? (i := 158) (by decide +kernel), rfl⟩
theorem q_159 : Cond.fieldLink RX3 33 "StringVotes$Strings" "size" "I" ∈ ALL := List.mem_filter.mpr ⟨List.mem_of_getElem? (i := 159) (by decide +kernel), rfl⟩
theorem q_160 : Cond.fieldLinkNest RX1 100 "StringVotes$Strings" "size" "I" RX6 ∈ NST := List.mem_filter.mpr ⟨List.mem_of_getElem? (i := 160) (by decide +kernel), rfl⟩
theorem q_161 : Cond.fieldLinkNest RX6 209 "StringVotes$Strings" "size" "I" RX6 ∈ NST := List.mem_filter.mpr ⟨List.mem_of_getElem? (i := 161) (by decide +kernel), rfl⟩
theorem q_162 : Cond.fieldLink RX3 37 "StringVotes$Strings" "cuts" "I" ∈ ALL := List.mem_filter.mpr ⟨List.mem_of_getElem? (i := 162) (by decide +kernel), rfl⟩
theorem q_163 : Cond.fieldLinkNest RX6 236 "StringVotes$Strings" "cuts" "I" RX6 ∈ NST := List.mem_filter.mpr ⟨List.mem_of_getElem? (i := 163) (by decide +kernel), rfl⟩
theorem q_177 : Cond.classLink RX1 42 RX0 ∈ ALL := List.mem_filter.mpr ⟨List.mem_of_getElem? (i := 177) (by decide +kernel), rfl⟩
theorem q_178 : Cond.instantiable RX0 3 ∈ ALL := List.mem_filter.mpr ⟨List.mem_of_getElem? (i := 178) (by decide +kernel), rfl⟩
theorem q_179 : Cond.methodLinkNest RX1 44 yX0_init RX6 ∈ NST := List.mem_filter.mpr ⟨List.mem_of_getElem? (i := 179) (by decide +kernel), rfl⟩
theorem q_180 : Cond.instanceMethod yX0_init ∈ ALL := List.mem_filter.mpr ⟨List.mem_of_getElem? (i := 180) (by decide +kernel), rfl⟩
theorem q_181 : Cond.code yX0_init cX0_init 1 none ∈ ALL := List.mem_filter.mpr ⟨List.mem_of_getElem? (i := 181) (by decide +kernel), rfl⟩
theorem q_182 : Cond.methodLink RX0 3 objectInit ∈ ALL := List.mem_filter.mpr ⟨List.mem_of_getElem? (i := 182) (by decide +kernel), rfl⟩
theorem q_183 : Cond.classLink RX0 9 RX2 ∈ ALL := List.mem_filter.mpr ⟨List.mem_of_getElem? (i := 183) (by decide +kernel), rfl⟩
theorem q_184 : Cond.methodLinkNest RX0 11 yX2_init RX6 ∈ NST := List.mem_filter.mpr ⟨List.mem_of_getElem? (i := 184) (by decide +kernel), rfl⟩
theorem q_185 : Cond.fieldLink RX0 14 "StringVotes$Book" "entries" "LStringVotes$Row;" ∈ ALL := List.mem_filter.mpr ⟨List.mem_of_getElem? (i := 185) (by decide +kernel), rfl⟩
theorem q_186 : Cond.fieldLink RX0 24 "StringVotes$Book" "sessions" "I" ∈ ALL := List.mem_filter.mpr ⟨List.mem_of_getElem? (i := 186) (by decide +kernel), rfl⟩
theorem q_187 : Cond.fieldLinkNest RX1 131 "StringVotes$Book" "sessions" "I" RX6 ∈ NST := List.mem_filter.mpr ⟨List.mem_of_getElem? (i := 187) (by decide +kernel), rfl⟩
theorem q_188 : Cond.fieldLinkNest RX6 224 "StringVotes$Book" "sessions" "I" RX6 ∈ NST := List.mem_filter.mpr ⟨List.mem_of_getElem? (i := 188) (by decide +kernel), rfl⟩
theorem q_189 : Cond.fieldLink RX0 28 "StringVotes$Book" "passed" "I" ∈ ALL := List.mem_filter.mpr ⟨List.mem_of_getElem? (i := 189) (by decide +kernel), rfl⟩
theorem q_190 : Cond.fieldLinkNest RX6 227 "StringVotes$Book" "passed" "I" RX6 ∈ NST := List.mem_filter.mpr ⟨List.mem_of_getElem? (i := 190) (by decide +kernel), rfl⟩
theorem q_198 : Cond.fieldLink RX1 14 "StringVotes$Parliament" "seats" "LStringVotes$Row;" ∈ ALL := List.mem_filter.mpr ⟨List.mem_of_getElem? (i := 198) (by decide +kernel), rfl⟩
theorem q_199 : Cond.fieldLinkNest RX6 86 "StringVotes$Parliament" "seats" "LStringVotes$Row;" RX6 ∈ NST := List.mem_filter.mpr ⟨List.mem_of_getElem? (i := 199) (by decide +kernel), rfl⟩
theorem q_200 : Cond.fieldLink RX1 20 "StringVotes$Parliament" "leaning" "LStringVotes$Row;" ∈ ALL := List.mem_filter.mpr ⟨List.mem_of_getElem? (i := 200) (by decide +kernel), rfl⟩
theorem q_201 : Cond.fieldLinkNest RX6 89 "StringVotes$Parliament" "leaning" "LStringVotes$Row;" RX6 ∈ NST := List.mem_filter.mpr ⟨List.mem_of_getElem? (i := 201) (by decide +kernel), rfl⟩
theorem q_202 : Cond.fieldLink RX1 23 "StringVotes$Parliament" "pulled" "LStringVotes$Row;" ∈ ALL := List.mem_filter.mpr ⟨List.mem_of_getElem? (i := 202) (by decide +kernel), rfl⟩
theorem q_203 : Cond.fieldLinkNest RX6 95 "StringVotes$Parliament" "pulled" "LStringVotes$Row;" RX6 ∈ NST := List.mem_filter.mpr ⟨List.mem_of_getElem? (i := 203) (by decide +kernel), rfl⟩
theorem q_204 : Cond.fieldLink RX1 26 "StringVotes$Parliament" "lowest" "LStringVotes$Row;" ∈ ALL := List.mem_filter.mpr ⟨List.mem_of_getElem? (i := 204) (by decide +kernel), rfl⟩
theorem q_205 : Cond.fieldLinkNest RX6 77 "StringVotes$Parliament" "lowest" "LStringVotes$Row;" RX6 ∈ NST := List.mem_filter.mpr ⟨List.mem_of_getElem? (i := 205) (by decide +kernel), rfl⟩
theorem q_206 : Cond.fieldLink RX1 29 "StringVotes$Parliament" "side" "LStringVotes$Row;" ∈ ALL := List.mem_filter.mpr ⟨List.mem_of_getElem? (i := 206) (by decide +kernel), rfl⟩
theorem q_207 : Cond.fieldLinkNest RX6 102 "StringVotes$Parliament" "side" "LStringVotes$Row;" RX6 ∈ NST := List.mem_filter.mpr ⟨List.mem_of_getElem? (i := 207) (by decide +kernel), rfl⟩
theorem q_208 : Cond.fieldLink RX1 32 "StringVotes$Parliament" "vote" "LStringVotes$Row;" ∈ ALL := List.mem_filter.mpr ⟨List.mem_of_getElem? (i := 208) (by decide +kernel), rfl⟩
theorem q_209 : Cond.fieldLinkNest RX6 99 "StringVotes$Parliament" "vote" "LStringVotes$Row;" RX6 ∈ NST := List.mem_filter.mpr ⟨List.mem_of_getElem? (i := 209) (by decide +kernel), rfl⟩
theorem q_210 : Cond.fieldLink RX1 38 "StringVotes$Parliament" "strings" "LStringVotes$Strings;" ∈ ALL := List.mem_filter.mpr ⟨List.mem_of_getElem? (i := 210) (by decide +kernel), rfl⟩
theorem q_211 : Cond.fieldLinkNest RX6 105 "StringVotes$Parliament" "strings" "LStringVotes$Strings;" RX6 ∈ NST := List.mem_filter.mpr ⟨List.mem_of_getElem? (i := 211) (by decide +kernel), rfl⟩
theorem q_212 : Cond.fieldLink RX1 45 "StringVotes$Parliament" "book" "LStringVotes$Book;" ∈ ALL := List.mem_filter.mpr ⟨List.mem_of_getElem? (i := 212) (by decide +kernel), rfl⟩
theorem q_213 : Cond.fieldLinkNest RX6 152 "StringVotes$Parliament" "book" "LStringVotes$Book;" RX6 ∈ NST := List.mem_filter.mpr ⟨List.mem_of_getElem? (i := 213) (by decide +kernel), rfl⟩
theorem q_214 : Cond.fieldLinkNest RX5 35 "StringVotes$Parliament" "puppets" "I" RX6 ∈ NST := List.mem_filter.mpr ⟨List.mem_of_getElem? (i := 214) (by decide +kernel), rfl⟩
theorem q_215 : Cond.fieldLink RX1 63 "StringVotes$Parliament" "puppets" "I" ∈ ALL := List.mem_filter.mpr ⟨List.mem_of_getElem? (i := 215) (by decide +kernel), rfl⟩
theorem q_216 : Cond.fieldLinkNest RX6 178 "StringVotes$Parliament" "puppets" "I" RX6 ∈ NST := List.mem_filter.mpr ⟨List.mem_of_getElem? (i := 216) (by decide +kernel), rfl⟩
theorem q_217 : Cond.fieldLink RX1 66 "StringVotes$Parliament" "speaker" "I" ∈ ALL := List.mem_filter.mpr ⟨List.mem_of_getElem? (i := 217) (by decide +kernel), rfl⟩
theorem q_218 : Cond.fieldLinkNest RX6 218 "StringVotes$Parliament" "speaker" "I" RX6 ∈ NST := List.mem_filter.mpr ⟨List.mem_of_getElem? (i := 218) (by decide +kernel), rfl⟩
theorem q_219 : Cond.fieldLink RX1 49 "StringVotes$Parliament" "pullsBound" "I" ∈ ALL := List.mem_filter.mpr ⟨List.mem_of_getElem? (i := 219) (by decide +kernel), rfl⟩
theorem q_220 : Cond.fieldLinkNest RX6 239 "StringVotes$Parliament" "pullsBound" "I" RX6 ∈ NST := List.mem_filter.mpr ⟨List.mem_of_getElem? (i := 220) (by decide +kernel), rfl⟩
theorem q_221 : Cond.fieldLinkNest RX5 26 "StringVotes$Parliament" "allSeats" "I" RX6 ∈ NST := List.mem_filter.mpr ⟨List.mem_of_getElem? (i := 221) (by decide +kernel), rfl⟩
theorem q_222 : Cond.fieldLink RX1 69 "StringVotes$Parliament" "allSeats" "I" ∈ ALL := List.mem_filter.mpr ⟨List.mem_of_getElem? (i := 222) (by decide +kernel), rfl⟩
theorem q_223 : Cond.fieldLinkNest RX6 201 "StringVotes$Parliament" "allSeats" "I" RX6 ∈ NST := List.mem_filter.mpr ⟨List.mem_of_getElem? (i := 223) (by decide +kernel), rfl⟩
theorem q_224 : Cond.fieldLinkNest RX5 20 "StringVotes$Parliament" "yesSeats" "I" RX6 ∈ NST := List.mem_filter.mpr ⟨List.mem_of_getElem? (i := 224) (by decide +kernel), rfl⟩
theorem q_225 : Cond.fieldLink RX1 72 "StringVotes$Parliament" "yesSeats" "I" ∈ ALL := List.mem_filter.mpr ⟨List.mem_of_getElem? (i := 225) (by decide +kernel), rfl⟩
theorem q_226 : Cond.fieldLinkNest RX6 174 "StringVotes$Parliament" "yesSeats" "I" RX6 ∈ NST := List.mem_filter.mpr ⟨List.mem_of_getElem? (i := 226) (by decide +kernel), rfl⟩
theorem q_255 : Cond.classLink RX6 23 RX5 ∈ ALL := List.mem_filter.mpr ⟨List.mem_of_getElem? (i := 255) (by decide +kernel), rfl⟩
theorem q_256 : Cond.instantiable RX5 3 ∈ ALL := List.mem_filter.mpr ⟨List.mem_of_getElem? (i := 256) (by decide +kernel), rfl⟩
theorem q_257 : Cond.methodLinkNest RX6 25 yX5_init RX6 ∈ NST := List.mem_filter.mpr ⟨List.mem_of_getElem? (i := 257) (by decide +kernel), rfl⟩
theorem q_258 : Cond.instanceMethod yX5_init ∈ ALL := List.mem_filter.mpr ⟨List.mem_of_getElem? (i := 258) (by decide +kernel), rfl⟩
theorem q_259 : Cond.code yX5_init cX5_init 1 none ∈ ALL := List.mem_filter.mpr ⟨List.mem_of_getElem? (i := 259) (by decide +kernel), rfl⟩
theorem q_260 : Cond.methodLink RX5 3 objectInit ∈ ALL := List.mem_filter.mpr ⟨List.mem_of_getElem? (i := 260) (by decide +kernel), rfl⟩
theorem q_261 : Cond.classLink RX5 9 RX2 ∈ ALL := List.mem_filter.mpr ⟨List.mem_of_getElem? (i := 261) (by decide +kernel), rfl⟩
theorem q_262 : Cond.methodLinkNest RX5 11 yX2_init RX6 ∈ NST := List.mem_filter.mpr ⟨List.mem_of_getElem? (i := 262) (by decide +kernel), rfl⟩
theorem q_263 : Cond.fieldLink RX5 14 "StringVotes$Turns" "gains" "LStringVotes$Row;" ∈ ALL := List.mem_filter.mpr ⟨List.mem_of_getElem? (i := 263) (by decide +kernel), rfl⟩
theorem q_264 : Cond.fieldLink RX5 32 "StringVotes$Turns" "groups" "I" ∈ ALL := List.mem_filter.mpr ⟨List.mem_of_getElem? (i := 264) (by decide +kernel), rfl⟩
theorem q_265 : Cond.fieldLink RX5 29 "StringVotes$Turns" "ahead" "I" ∈ ALL := List.mem_filter.mpr ⟨List.mem_of_getElem? (i := 265) (by decide +kernel), rfl⟩
theorem q_273 : Cond.classLink RX6 30 RX4 ∈ ALL := List.mem_filter.mpr ⟨List.mem_of_getElem? (i := 273) (by decide +kernel), rfl⟩
theorem q_274 : Cond.instantiable RX4 5 ∈ ALL := List.mem_filter.mpr ⟨List.mem_of_getElem? (i := 274) (by decide +kernel), rfl⟩
theorem q_275 : Cond.methodLinkNest RX6 32 yX4_init RX6 ∈ NST := List.mem_filter.mpr ⟨List.mem_of_getElem? (i := 275) (by decide +kernel), rfl⟩
theorem q_276 : Cond.instanceMethod yX4_init ∈ ALL := List.mem_filter.mpr ⟨List.mem_of_getElem? (i := 276) (by decide +kernel), rfl⟩
theorem q_277 : Cond.code yX4_init cX4_init 1 none ∈ ALL := List.mem_filter.mpr ⟨List.mem_of_getElem? (i := 277) (by decide +kernel), rfl⟩
theorem q_278 : Cond.methodLink RX4 3 objectInit ∈ ALL := List.mem_filter.mpr ⟨List.mem_of_getElem? (i := 278) (by decide +kernel), rfl⟩
theorem q_279 : Cond.classLink RX4 9 RX2 ∈ ALL := List.mem_filter.mpr ⟨List.mem_of_getElem? (i := 279) (by decide +kernel), rfl⟩
theorem q_280 : Cond.methodLinkNest RX4 11 yX2_init RX6 ∈ NST := List.mem_filter.mpr ⟨List.mem_of_getElem? (i := 280) (by decide +kernel), rfl⟩
theorem q_281 : Cond.fieldLink RX4 14 "StringVotes$Text" "characters" "LStringVotes$Row;" ∈ ALL := List.mem_filter.mpr ⟨List.mem_of_getElem? (i := 281) (by decide +kernel), rfl⟩
theorem q_282 : Cond.fieldLink RX4 23 "StringVotes$Text" "length" "I" ∈ ALL := List.mem_filter.mpr ⟨List.mem_of_getElem? (i := 282) (by decide +kernel), rfl⟩
theorem q_283 : Cond.fieldLinkNest RX6 233 "StringVotes$Text" "length" "I" RX6 ∈ NST := List.mem_filter.mpr ⟨List.mem_of_getElem? (i := 283) (by decide +kernel), rfl⟩
theorem q_284 : Cond.fieldLink RX4 42 "StringVotes$Text" "letter" "I" ∈ ALL := List.mem_filter.mpr ⟨List.mem_of_getElem? (i := 284) (by decide +kernel), rfl⟩
theorem q_285 : Cond.fieldLinkNest RX6 285 "StringVotes$Text" "letter" "I" RX6 ∈ NST := List.mem_filter.mpr ⟨List.mem_of_getElem? (i := 285) (by decide +kernel), rfl⟩
theorem q_286 : Cond.fieldLink RX4 20 "StringVotes$Text" "numbers" "LStringVotes$Row;" ∈ ALL := List.mem_filter.mpr ⟨List.mem_of_getElem? (i := 286) (by decide +kernel), rfl⟩
theorem q_287 : Cond.fieldLinkNest RX6 282 "StringVotes$Text" "numbers" "LStringVotes$Row;" RX6 ∈ NST := List.mem_filter.mpr ⟨List.mem_of_getElem? (i := 287) (by decide +kernel), rfl⟩
theorem q_288 : Cond.fieldLink RX4 31 "StringVotes$Text" "place" "I" ∈ ALL := List.mem_filter.mpr ⟨List.mem_of_getElem? (i := 288) (by decide +kernel), rfl⟩
theorem q_289 : Cond.fieldLinkNest RX6 270 "StringVotes$Text" "place" "I" RX6 ∈ NST := List.mem_filter.mpr ⟨List.mem_of_getElem? (i := 289) (by decide +kernel), rfl⟩
theorem q_301 : Cond.fieldLink RX6 10 "StringVotes" "now" "LStringVotes$Parliament;" ∈ ALL := List.mem_filter.mpr ⟨List.mem_of_getElem? (i := 301) (by decide +kernel), rfl⟩
theorem q_302 : Cond.fieldLink RX6 16 "StringVotes" "trial" "LStringVotes$Parliament;" ∈ ALL := List.mem_filter.mpr ⟨List.mem_of_getElem? (i := 302) (by decide +kernel), rfl⟩
theorem q_303 : Cond.fieldLink RX6 19 "StringVotes" "past" "[LStringVotes$Parliament;" ∈ ALL := List.mem_filter.mpr ⟨List.mem_of_getElem? (i := 303) (by decide +kernel), rfl⟩
theorem q_304 : Cond.fieldLink RX6 291 "StringVotes" "oldestSlot" "I" ∈ ALL := List.mem_filter.mpr ⟨List.mem_of_getElem? (i := 304) (by decide +kernel), rfl⟩
theorem q_305 : Cond.fieldLink RX6 230 "StringVotes" "states" "I" ∈ ALL := List.mem_filter.mpr ⟨List.mem_of_getElem? (i := 305) (by decide +kernel), rfl⟩
theorem q_306 : Cond.fieldLink RX6 26 "StringVotes" "turns" "LStringVotes$Turns;" ∈ ALL := List.mem_filter.mpr ⟨List.mem_of_getElem? (i := 306) (by decide +kernel), rfl⟩
theorem q_307 : Cond.fieldLink RX6 33 "StringVotes" "text" "LStringVotes$Text;" ∈ ALL := List.mem_filter.mpr ⟨List.mem_of_getElem? (i := 307) (by decide +kernel), rfl⟩
theorem q_308 : Cond.fieldLink RX6 264 "StringVotes" "ordersDone" "I" ∈ ALL := List.mem_filter.mpr ⟨List.mem_of_getElem? (i := 308) (by decide +kernel), rfl⟩
theorem q_309 : Cond.fieldLink RX6 255 "StringVotes" "faultPosition" "I" ∈ ALL := List.mem_filter.mpr ⟨List.mem_of_getElem? (i := 309) (by decide +kernel), rfl⟩
theorem q_310 : Cond.fieldLink RX6 258 "StringVotes" "faultReason" "I" ∈ ALL := List.mem_filter.mpr ⟨List.mem_of_getElem? (i := 310) (by decide +kernel), rfl⟩
theorem q_311 : Cond.fieldLink RX6 261 "StringVotes" "faultCause" "I" ∈ ALL := List.mem_filter.mpr ⟨List.mem_of_getElem? (i := 311) (by decide +kernel), rfl⟩
theorem q_335 : Cond.methodLink RL 13 yX6_puppet ∈ ALL := List.mem_filter.mpr ⟨List.mem_of_getElem? (i := 335) (by decide +kernel), rfl⟩
theorem q_336 : Cond.instanceMethod yX6_puppet ∈ ALL := List.mem_filter.mpr ⟨List.mem_of_getElem? (i := 336) (by decide +kernel), rfl⟩
theorem q_337 : Cond.selects RX6 yX6_puppet yX6_puppet ∈ ALL := List.mem_filter.mpr ⟨List.mem_of_getElem? (i := 337) (by decide +kernel), rfl⟩
theorem q_338 : Cond.code yX6_puppet cX6_puppet 3 (some .int) ∈ ALL := List.mem_filter.mpr ⟨List.mem_of_getElem? (i := 338) (by decide +kernel), rfl⟩
theorem q_339 : Cond.methodLinkNest RX6 37 yX1_copyFrom RX6 ∈ NST := List.mem_filter.mpr ⟨List.mem_of_getElem? (i := 339) (by decide +kernel), rfl⟩
theorem q_341 : Cond.instanceMethod yX1_copyFrom ∈ ALL := List.mem_filter.mpr ⟨List.mem_of_getElem? (i := 341) (by decide +kernel), rfl⟩
theorem q_342 : Cond.code yX1_copyFrom cX1_copyFrom 2 none ∈ ALL := List.mem_filter.mpr ⟨List.mem_of_getElem? (i := 342) (by decide +kernel), rfl⟩
theorem q_343 : Cond.methodLinkNest RX1 53 yX2_copyFrom RX6 ∈ NST := List.mem_filter.mpr ⟨List.mem_of_getElem? (i := 343) (by decide +kernel), rfl⟩
theorem q_345 : Cond.instanceMethod yX2_copyFrom ∈ ALL := List.mem_filter.mpr ⟨List.mem_of_getElem? (i := 345) (by decide +kernel), rfl⟩
theorem q_346 : Cond.code yX2_copyFrom cX2_copyFrom 2 none ∈ ALL := List.mem_filter.mpr ⟨List.mem_of_getElem? (i := 346) (by decide +kernel), rfl⟩
theorem q_347 : Cond.methodLink RX2 19 yJ9_min_7cf53 ∈ ALL := List.mem_filter.mpr ⟨List.mem_of_getElem? (i := 347) (by decide +kernel), rfl⟩
theorem q_348 : Cond.static yJ9_min_7cf53 ∈ ALL := List.mem_filter.mpr ⟨List.mem_of_getElem? (i := 348) (by decide +kernel), rfl⟩
theorem q_349 : Cond.code yJ9_min_7cf53 cJ9_min_7cf53 2 (some .int) ∈ ALL := List.mem_filter.mpr ⟨List.mem_of_getElem? (i := 349) (by decide +kernel), rfl⟩
theorem q_350 : Cond.methodLink RX2 22 arraycopyName ∈ ALL := List.mem_filter.mpr ⟨List.mem_of_getElem? (i := 350) (by decide +kernel), rfl⟩
theorem q_351 : Cond.static arraycopyName ∈ ALL := List.mem_filter.mpr ⟨List.mem_of_getElem? (i := 351) (by decide +kernel), rfl⟩
theorem q_352 : Cond.native arraycopyName ∈ ALL := List.mem_filter.mpr ⟨List.mem_of_getElem? (i := 352) (by decide +kernel), rfl⟩
theorem q_353 : Cond.methodLinkNest RX1 57 yX3_copyFrom RX6 ∈ NST := List.mem_filter.mpr ⟨List.mem_of_getElem? (i := 353) (by decide +kernel), rfl⟩
theorem q_355 : Cond.instanceMethod yX3_copyFrom ∈ ALL := List.mem_filter.mpr ⟨List.mem_of_getElem? (i := 355) (by decide +kernel), rfl⟩
theorem q_356 : Cond.code yX3_copyFrom cX3_copyFrom 2 none ∈ ALL := List.mem_filter.mpr ⟨List.mem_of_getElem? (i := 356) (by decide +kernel), rfl⟩
theorem q_357 : Cond.methodLinkNest RX3 29 yX2_copyFrom RX6 ∈ NST := List.mem_filter.mpr ⟨List.mem_of_getElem? (i := 357) (by decide +kernel), rfl⟩
theorem q_358 : Cond.methodLinkNest RX1 60 yX0_copyFrom RX6 ∈ NST := List.mem_filter.mpr ⟨List.mem_of_getElem? (i := 358) (by decide +kernel), rfl⟩
theorem q_360 : Cond.instanceMethod yX0_copyFrom ∈ ALL := List.mem_filter.mpr ⟨List.mem_of_getElem? (i := 360) (by decide +kernel), rfl⟩
theorem q_361 : Cond.code yX0_copyFrom cX0_copyFrom 2 none ∈ ALL := List.mem_filter.mpr ⟨List.mem_of_getElem? (i := 361) (by decide +kernel), rfl⟩
theorem q_362 : Cond.methodLinkNest RX0 20 yX2_copyFrom RX6 ∈ NST := List.mem_filter.mpr ⟨List.mem_of_getElem? (i := 362) (by decide +kernel), rfl⟩
theorem q_363 : Cond.methodLinkNest RX6 41 yX1_addPuppet RX6 ∈ NST := List.mem_filter.mpr ⟨List.mem_of_getElem? (i := 363) (by decide +kernel), rfl⟩
theorem q_365 : Cond.instanceMethod yX1_addPuppet ∈ ALL := List.mem_filter.mpr ⟨List.mem_of_getElem? (i := 365) (by decide +kernel), rfl⟩
theorem q_366 : Cond.code yX1_addPuppet cX1_addPuppet 3 (some .int) ∈ ALL := List.mem_filter.mpr ⟨List.mem_of_getElem? (i := 366) (by decide +kernel), rfl⟩
theorem q_367 : Cond.methodLinkNest RX1 75 yX6_isIn RX6 ∈ NST := List.mem_filter.mpr ⟨List.mem_of_getElem? (i := 367) (by decide +kernel), rfl⟩
theorem q_368 : Cond.static yX6_isIn ∈ ALL := List.mem_filter.mpr ⟨List.mem_of_getElem? (i := 368) (by decide +kernel), rfl⟩
theorem q_369 : Cond.code yX6_isIn cX6_isIn 3 (some .boolean) ∈ ALL := List.mem_filter.mpr ⟨List.mem_of_getElem? (i := 369) (by decide +kernel), rfl⟩
theorem q_370 : Cond.constant RX1 79 (-1000001) ∈ ALL := List.mem_filter.mpr ⟨List.mem_of_getElem? (i := 370) (by decide +kernel), rfl⟩
theorem q_371 : Cond.constant RX1 80 (-1000003) ∈ ALL := List.mem_filter.mpr ⟨List.mem_of_getElem? (i := 371) (by decide +kernel), rfl⟩
theorem q_372 : Cond.methodLinkNest RX1 81 yX2_put RX6 ∈ NST := List.mem_filter.mpr ⟨List.mem_of_getElem? (i := 372) (by decide +kernel), rfl⟩
theorem q_374 : Cond.instanceMethod yX2_put ∈ ALL := List.mem_filter.mpr ⟨List.mem_of_getElem? (i := 374) (by decide +kernel), rfl⟩
theorem q_375 : Cond.code yX2_put cX2_put 3 none ∈ ALL := List.mem_filter.mpr ⟨List.mem_of_getElem? (i := 375) (by decide +kernel), rfl⟩
theorem q_376 : Cond.methodLink RX1 85 yX1_tellGroups ∈ ALL := List.mem_filter.mpr ⟨List.mem_of_getElem? (i := 376) (by decide +kernel), rfl⟩
theorem q_378 : Cond.instanceMethod yX1_tellGroups ∈ ALL := List.mem_filter.mpr ⟨List.mem_of_getElem? (i := 378) (by decide +kernel), rfl⟩
theorem q_379 : Cond.code yX1_tellGroups cX1_tellGroups 2 none ∈ ALL := List.mem_filter.mpr ⟨List.mem_of_getElem? (i := 379) (by decide +kernel), rfl⟩
theorem q_380 : Cond.methodLink RX1 142 yX1_joinBy ∈ ALL := List.mem_filter.mpr ⟨List.mem_of_getElem? (i := 380) (by decide +kernel), rfl⟩
theorem q_382 : Cond.instanceMethod yX1_joinBy ∈ ALL := List.mem_filter.mpr ⟨List.mem_of_getElem? (i := 382) (by decide +kernel), rfl⟩
theorem q_383 : Cond.code yX1_joinBy cX1_joinBy 8 none ∈ ALL := List.mem_filter.mpr ⟨List.mem_of_getElem? (i := 383) (by decide +kernel), rfl⟩
theorem q_384 : Cond.methodLinkNest RX1 128 yX2_get RX6 ∈ NST := List.mem_filter.mpr ⟨List.mem_of_getElem? (i := 384) (by decide +kernel), rfl⟩
theorem q_386 : Cond.instanceMethod yX2_get ∈ ALL := List.mem_filter.mpr ⟨List.mem_of_getElem? (i := 386) (by decide +kernel), rfl⟩
theorem q_387 : Cond.code yX2_get cX2_get 2 (some .int) ∈ ALL := List.mem_filter.mpr ⟨List.mem_of_getElem? (i := 387) (by decide +kernel), rfl⟩
theorem q_388 : Cond.methodLink RX1 151 yJ9_min_7cf53 ∈ ALL := List.mem_filter.mpr ⟨List.mem_of_getElem? (i := 388) (by decide +kernel), rfl⟩
theorem q_389 : Cond.methodLink RX1 156 yJ9_max_7cf53 ∈ ALL := List.mem_filter.mpr ⟨List.mem_of_getElem? (i := 389) (by decide +kernel), rfl⟩
theorem q_390 : Cond.methodLink RX1 88 yX1_tellVotes ∈ ALL := List.mem_filter.mpr ⟨List.mem_of_getElem? (i := 390) (by decide +kernel), rfl⟩
theorem q_392 : Cond.instanceMethod yX1_tellVotes ∈ ALL := List.mem_filter.mpr ⟨List.mem_of_getElem? (i := 392) (by decide +kernel), rfl⟩
theorem q_393 : Cond.code yX1_tellVotes cX1_tellVotes 4 none ∈ ALL := List.mem_filter.mpr ⟨List.mem_of_getElem? (i := 393) (by decide +kernel), rfl⟩
theorem q_394 : Cond.methodLink RX1 162 yX1_pulledVote ∈ ALL := List.mem_filter.mpr ⟨List.mem_of_getElem? (i := 394) (by decide +kernel), rfl⟩
theorem q_396 : Cond.instanceMethod yX1_pulledVote ∈ ALL := List.mem_filter.mpr ⟨List.mem_of_getElem? (i := 396) (by decide +kernel), rfl⟩
theorem q_397 : Cond.code yX1_pulledVote cX1_pulledVote 4 (some .int) ∈ ALL := List.mem_filter.mpr ⟨List.mem_of_getElem? (i := 397) (by decide +kernel), rfl⟩
theorem q_398 : Cond.methodLink RX1 165 yX1_leadingVote ∈ ALL := List.mem_filter.mpr ⟨List.mem_of_getElem? (i := 398) (by decide +kernel), rfl⟩
theorem q_400 : Cond.instanceMethod yX1_leadingVote ∈ ALL := List.mem_filter.mpr ⟨List.mem_of_getElem? (i := 400) (by decide +kernel), rfl⟩
theorem q_401 : Cond.code yX1_leadingVote cX1_leadingVote 5 (some .int) ∈ ALL := List.mem_filter.mpr ⟨List.mem_of_getElem? (i := 401) (by decide +kernel), rfl⟩
theorem q_402 : Cond.methodLink RX6 45 yX6_settle ∈ ALL := List.mem_filter.mpr ⟨List.mem_of_getElem? (i := 402) (by decide +kernel), rfl⟩
theorem q_404 : Cond.instanceMethod yX6_settle ∈ ALL := List.mem_filter.mpr ⟨List.mem_of_getElem? (i := 404) (by decide +kernel), rfl⟩
theorem q_405 : Cond.code yX6_settle cX6_settle 2 (some .int) ∈ ALL := List.mem_filter.mpr ⟨List.mem_of_getElem? (i := 405) (by decide +kernel), rfl⟩
theorem q_406 : Cond.methodLink RX6 279 yX6_isError ∈ ALL := List.mem_filter.mpr ⟨List.mem_of_getElem? (i := 406) (by decide +kernel), rfl⟩
theorem q_407 : Cond.static yX6_isError ∈ ALL := List.mem_filter.mpr ⟨List.mem_of_getElem? (i := 407) (by decide +kernel), rfl⟩
theorem q_408 : Cond.code yX6_isError cX6_isError 1 (some .boolean) ∈ ALL := List.mem_filter.mpr ⟨List.mem_of_getElem? (i := 408) (by decide +kernel), rfl⟩
theorem q_409 : Cond.methodLink RX6 288 yX6_remember ∈ ALL := List.mem_filter.mpr ⟨List.mem_of_getElem? (i := 409) (by decide +kernel), rfl⟩
theorem q_411 : Cond.instanceMethod yX6_remember ∈ ALL := List.mem_filter.mpr ⟨List.mem_of_getElem? (i := 411) (by decide +kernel), rfl⟩
theorem q_412 : Cond.code yX6_remember cX6_remember 2 none ∈ ALL := List.mem_filter.mpr ⟨List.mem_of_getElem? (i := 412) (by decide +kernel), rfl⟩
theorem q_413 : Cond.methodLink RX6 243 yX6_pastState ∈ ALL := List.mem_filter.mpr ⟨List.mem_of_getElem? (i := 413) (by decide +kernel), rfl⟩
theorem q_415 : Cond.instanceMethod yX6_pastState ∈ ALL := List.mem_filter.mpr ⟨List.mem_of_getElem? (i := 415) (by decide +kernel), rfl⟩
theorem q_416 : Cond.code yX6_pastState cX6_pastState 3 (some (.object "StringVotes$Parliament")) ∈ ALL := List.mem_filter.mpr ⟨List.mem_of_getElem? (i := 416) (by decide +kernel), rfl⟩
theorem q_417 : Cond.methodLink RL 18 yX6_tie ∈ ALL := List.mem_filter.mpr ⟨List.mem_of_getElem? (i := 417) (by decide +kernel), rfl⟩
theorem q_418 : Cond.instanceMethod yX6_tie ∈ ALL := List.mem_filter.mpr ⟨List.mem_of_getElem? (i := 418) (by decide +kernel), rfl⟩
theorem q_419 : Cond.selects RX6 yX6_tie yX6_tie ∈ ALL := List.mem_filter.mpr ⟨List.mem_of_getElem? (i := 419) (by decide +kernel), rfl⟩
theorem q_420 : Cond.code yX6_tie cX6_tie 5 (some .int) ∈ ALL := List.mem_filter.mpr ⟨List.mem_of_getElem? (i := 420) (by decide +kernel), rfl⟩
theorem q_421 : Cond.methodLinkNest RX6 49 yX1_addString RX6 ∈ NST := List.mem_filter.mpr ⟨List.mem_of_getElem? (i := 421) (by decide +kernel), rfl⟩
theorem q_423 : Cond.instanceMethod yX1_addString ∈ ALL := List.mem_filter.mpr ⟨List.mem_of_getElem? (i := 423) (by decide +kernel), rfl⟩
theorem q_424 : Cond.code yX1_addString cX1_addString 6 (some .int) ∈ ALL := List.mem_filter.mpr ⟨List.mem_of_getElem? (i := 424) (by decide +kernel), rfl⟩
theorem q_425 : Cond.methodLink RX1 91 yX1_arePair ∈ ALL := List.mem_filter.mpr ⟨List.mem_of_getElem? (i := 425) (by decide +kernel), rfl⟩
theorem q_427 : Cond.instanceMethod yX1_arePair ∈ ALL := List.mem_filter.mpr ⟨List.mem_of_getElem? (i := 427) (by decide +kernel), rfl⟩
theorem q_428 : Cond.code yX1_arePair cX1_arePair 3 (some .boolean) ∈ ALL := List.mem_filter.mpr ⟨List.mem_of_getElem? (i := 428) (by decide +kernel), rfl⟩
theorem q_429 : Cond.methodLink RX1 118 yX1_hasPuppet ∈ ALL := List.mem_filter.mpr ⟨List.mem_of_getElem? (i := 429) (by decide +kernel), rfl⟩
theorem q_431 : Cond.instanceMethod yX1_hasPuppet ∈ ALL := List.mem_filter.mpr ⟨List.mem_of_getElem? (i := 431) (by decide +kernel), rfl⟩
theorem q_432 : Cond.code yX1_hasPuppet cX1_hasPuppet 2 (some .boolean) ∈ ALL := List.mem_filter.mpr ⟨List.mem_of_getElem? (i := 432) (by decide +kernel), rfl⟩
theorem q_433 : Cond.methodLink RX1 95 yX1_reasonAgainstString ∈ ALL := List.mem_filter.mpr ⟨List.mem_of_getElem? (i := 433) (by decide +kernel), rfl⟩
theorem q_435 : Cond.instanceMethod yX1_reasonAgainstString ∈ ALL := List.mem_filter.mpr ⟨List.mem_of_getElem? (i := 435) (by decide +kernel), rfl⟩
theorem q_436 : Cond.code yX1_reasonAgainstString cX1_reasonAgainstString 7 (some .int) ∈ ALL := List.mem_filter.mpr ⟨List.mem_of_getElem? (i := 436) (by decide +kernel), rfl⟩
theorem q_437 : Cond.methodLinkNest RX1 168 yX3_areTied RX6 ∈ NST := List.mem_filter.mpr ⟨List.mem_of_getElem? (i := 437) (by decide +kernel), rfl⟩
theorem q_439 : Cond.instanceMethod yX3_areTied ∈ ALL := List.mem_filter.mpr ⟨List.mem_of_getElem? (i := 439) (by decide +kernel), rfl⟩
theorem q_440 : Cond.code yX3_areTied cX3_areTied 6 (some .boolean) ∈ ALL := List.mem_filter.mpr ⟨List.mem_of_getElem? (i := 440) (by decide +kernel), rfl⟩
theorem q_441 : Cond.methodLink RX3 40 yJ9_min_7cf53 ∈ ALL := List.mem_filter.mpr ⟨List.mem_of_getElem? (i := 441) (by decide +kernel), rfl⟩
theorem q_442 : Cond.methodLink RX3 50 yJ9_max_7cf53 ∈ ALL := List.mem_filter.mpr ⟨List.mem_of_getElem? (i := 442) (by decide +kernel), rfl⟩
theorem q_443 : Cond.methodLinkNest RX3 56 yX2_get RX6 ∈ NST := List.mem_filter.mpr ⟨List.mem_of_getElem? (i := 443) (by decide +kernel), rfl⟩
theorem q_444 : Cond.methodLink RX1 171 yX1_hangTogether ∈ ALL := List.mem_filter.mpr ⟨List.mem_of_getElem? (i := 444) (by decide +kernel), rfl⟩
theorem q_446 : Cond.instanceMethod yX1_hangTogether ∈ ALL := List.mem_filter.mpr ⟨List.mem_of_getElem? (i := 446) (by decide +kernel), rfl⟩
theorem q_447 : Cond.code yX1_hangTogether cX1_hangTogether 3 (some .boolean) ∈ ALL := List.mem_filter.mpr ⟨List.mem_of_getElem? (i := 447) (by decide +kernel), rfl⟩
theorem q_448 : Cond.constant RX1 99 (-1000002) ∈ ALL := List.mem_filter.mpr ⟨List.mem_of_getElem? (i := 448) (by decide +kernel), rfl⟩
theorem q_449 : Cond.methodLinkNest RX1 103 yX3_append RX6 ∈ NST := List.mem_filter.mpr ⟨List.mem_of_getElem? (i := 449) (by decide +kernel), rfl⟩
theorem q_451 : Cond.instanceMethod yX3_append ∈ ALL := List.mem_filter.mpr ⟨List.mem_of_getElem? (i := 451) (by decide +kernel), rfl⟩
theorem q_452 : Cond.code yX3_append cX3_append 5 (some .int) ∈ ALL := List.mem_filter.mpr ⟨List.mem_of_getElem? (i := 452) (by decide +kernel), rfl⟩
theorem q_453 : Cond.methodLinkNest RX3 46 yX2_put RX6 ∈ NST := List.mem_filter.mpr ⟨List.mem_of_getElem? (i := 453) (by decide +kernel), rfl⟩
theorem q_454 : Cond.methodLink RL 23 yX6_cut ∈ ALL := List.mem_filter.mpr ⟨List.mem_of_getElem? (i := 454) (by decide +kernel), rfl⟩
theorem q_455 : Cond.instanceMethod yX6_cut ∈ ALL := List.mem_filter.mpr ⟨List.mem_of_getElem? (i := 455) (by decide +kernel), rfl⟩
theorem q_456 : Cond.selects RX6 yX6_cut yX6_cut ∈ ALL := List.mem_filter.mpr ⟨List.mem_of_getElem? (i := 456) (by decide +kernel), rfl⟩
theorem q_457 : Cond.code yX6_cut cX6_cut 2 (some .int) ∈ ALL := List.mem_filter.mpr ⟨List.mem_of_getElem? (i := 457) (by decide +kernel), rfl⟩
theorem q_458 : Cond.methodLinkNest RX6 53 yX1_cutString RX6 ∈ NST := List.mem_filter.mpr ⟨List.mem_of_getElem? (i := 458) (by decide +kernel), rfl⟩
theorem q_460 : Cond.instanceMethod yX1_cutString ∈ ALL := List.mem_filter.mpr ⟨List.mem_of_getElem? (i := 460) (by decide +kernel), rfl⟩
theorem q_461 : Cond.code yX1_cutString cX1_cutString 2 (some .int) ∈ ALL := List.mem_filter.mpr ⟨List.mem_of_getElem? (i := 461) (by decide +kernel), rfl⟩
theorem q_462 : Cond.methodLinkNest RX1 107 yX3_has RX6 ∈ NST := List.mem_filter.mpr ⟨List.mem_of_getElem? (i := 462) (by decide +kernel), rfl⟩
theorem q_464 : Cond.instanceMethod yX3_has ∈ ALL := List.mem_filter.mpr ⟨List.mem_of_getElem? (i := 464) (by decide +kernel), rfl⟩
theorem q_465 : Cond.code yX3_has cX3_has 2 (some .boolean) ∈ ALL := List.mem_filter.mpr ⟨List.mem_of_getElem? (i := 465) (by decide +kernel), rfl⟩
theorem q_466 : Cond.methodLinkNest RX1 111 yX3_removeAt RX6 ∈ NST := List.mem_filter.mpr ⟨List.mem_of_getElem? (i := 466) (by decide +kernel), rfl⟩
theorem q_468 : Cond.instanceMethod yX3_removeAt ∈ ALL := List.mem_filter.mpr ⟨List.mem_of_getElem? (i := 468) (by decide +kernel), rfl⟩
theorem q_469 : Cond.code yX3_removeAt cX3_removeAt 2 none ∈ ALL := List.mem_filter.mpr ⟨List.mem_of_getElem? (i := 469) (by decide +kernel), rfl⟩
theorem q_470 : Cond.methodLinkNest RX3 53 yX2_removeAt RX6 ∈ NST := List.mem_filter.mpr ⟨List.mem_of_getElem? (i := 470) (by decide +kernel), rfl⟩
theorem q_472 : Cond.instanceMethod yX2_removeAt ∈ ALL := List.mem_filter.mpr ⟨List.mem_of_getElem? (i := 472) (by decide +kernel), rfl⟩
theorem q_473 : Cond.code yX2_removeAt cX2_removeAt 3 none ∈ ALL := List.mem_filter.mpr ⟨List.mem_of_getElem? (i := 473) (by decide +kernel), rfl⟩
theorem q_474 : Cond.methodLink RL 28 yX6_cutDeal ∈ ALL := List.mem_filter.mpr ⟨List.mem_of_getElem? (i := 474) (by decide +kernel), rfl⟩
theorem q_475 : Cond.instanceMethod yX6_cutDeal ∈ ALL := List.mem_filter.mpr ⟨List.mem_of_getElem? (i := 475) (by decide +kernel), rfl⟩
theorem q_476 : Cond.selects RX6 yX6_cutDeal yX6_cutDeal ∈ ALL := List.mem_filter.mpr ⟨List.mem_of_getElem? (i := 476) (by decide +kernel), rfl⟩
theorem q_477 : Cond.code yX6_cutDeal cX6_cutDeal 2 (some .int) ∈ ALL := List.mem_filter.mpr ⟨List.mem_of_getElem? (i := 477) (by decide +kernel), rfl⟩
theorem q_478 : Cond.methodLinkNest RX6 56 yX1_cutStringsOf RX6 ∈ NST := List.mem_filter.mpr ⟨List.mem_of_getElem? (i := 478) (by decide +kernel), rfl⟩
theorem q_480 : Cond.instanceMethod yX1_cutStringsOf ∈ ALL := List.mem_filter.mpr ⟨List.mem_of_getElem? (i := 480) (by decide +kernel), rfl⟩
theorem q_481 : Cond.code yX1_cutStringsOf cX1_cutStringsOf 3 (some .int) ∈ ALL := List.mem_filter.mpr ⟨List.mem_of_getElem? (i := 481) (by decide +kernel), rfl⟩
theorem q_482 : Cond.methodLinkNest RX1 114 yX3_removeAllOf RX6 ∈ NST := List.mem_filter.mpr ⟨List.mem_of_getElem? (i := 482) (by decide +kernel), rfl⟩
theorem q_484 : Cond.instanceMethod yX3_removeAllOf ∈ ALL := List.mem_filter.mpr ⟨List.mem_of_getElem? (i := 484) (by decide +kernel), rfl⟩
theorem q_485 : Cond.code yX3_removeAllOf cX3_removeAllOf 4 (some .int) ∈ ALL := List.mem_filter.mpr ⟨List.mem_of_getElem? (i := 485) (by decide +kernel), rfl⟩
theorem q_486 : Cond.methodLink RX3 60 yX3_removeAt ∈ ALL := List.mem_filter.mpr ⟨List.mem_of_getElem? (i := 486) (by decide +kernel), rfl⟩
theorem q_487 : Cond.methodLink RL 32 yX6_pull ∈ ALL := List.mem_filter.mpr ⟨List.mem_of_getElem? (i := 487) (by decide +kernel), rfl⟩
theorem q_488 : Cond.instanceMethod yX6_pull ∈ ALL := List.mem_filter.mpr ⟨List.mem_of_getElem? (i := 488) (by decide +kernel), rfl⟩
theorem q_489 : Cond.selects RX6 yX6_pull yX6_pull ∈ ALL := List.mem_filter.mpr ⟨List.mem_of_getElem? (i := 489) (by decide +kernel), rfl⟩
theorem q_490 : Cond.code yX6_pull cX6_pull 3 (some .int) ∈ ALL := List.mem_filter.mpr ⟨List.mem_of_getElem? (i := 490) (by decide +kernel), rfl⟩
theorem q_491 : Cond.methodLinkNest RX6 59 yX1_pullTo RX6 ∈ NST := List.mem_filter.mpr ⟨List.mem_of_getElem? (i := 491) (by decide +kernel), rfl⟩
theorem q_493 : Cond.instanceMethod yX1_pullTo ∈ ALL := List.mem_filter.mpr ⟨List.mem_of_getElem? (i := 493) (by decide +kernel), rfl⟩
theorem q_494 : Cond.code yX1_pullTo cX1_pullTo 3 (some .int) ∈ ALL := List.mem_filter.mpr ⟨List.mem_of_getElem? (i := 494) (by decide +kernel), rfl⟩
theorem q_495 : Cond.methodLink RX1 121 yX1_reasonAgainstPull ∈ ALL := List.mem_filter.mpr ⟨List.mem_of_getElem? (i := 495) (by decide +kernel), rfl⟩
theorem q_497 : Cond.instanceMethod yX1_reasonAgainstPull ∈ ALL := List.mem_filter.mpr ⟨List.mem_of_getElem? (i := 497) (by decide +kernel), rfl⟩
theorem q_498 : Cond.code yX1_reasonAgainstPull cX1_reasonAgainstPull 6 (some .int) ∈ ALL := List.mem_filter.mpr ⟨List.mem_of_getElem? (i := 498) (by decide +kernel), rfl⟩
theorem q_499 : Cond.methodLink RX1 125 yX1_isPulled ∈ ALL := List.mem_filter.mpr ⟨List.mem_of_getElem? (i := 499) (by decide +kernel), rfl⟩
theorem q_501 : Cond.instanceMethod yX1_isPulled ∈ ALL := List.mem_filter.mpr ⟨List.mem_of_getElem? (i := 501) (by decide +kernel), rfl⟩
theorem q_502 : Cond.code yX1_isPulled cX1_isPulled 2 (some .boolean) ∈ ALL := List.mem_filter.mpr ⟨List.mem_of_getElem? (i := 502) (by decide +kernel), rfl⟩
theorem q_503 : Cond.methodLink RL 36 yX6_release ∈ ALL := List.mem_filter.mpr ⟨List.mem_of_getElem? (i := 503) (by decide +kernel), rfl⟩
theorem q_504 : Cond.instanceMethod yX6_release ∈ ALL := List.mem_filter.mpr ⟨List.mem_of_getElem? (i := 504) (by decide +kernel), rfl⟩
theorem q_505 : Cond.selects RX6 yX6_release yX6_release ∈ ALL := List.mem_filter.mpr ⟨List.mem_of_getElem? (i := 505) (by decide +kernel), rfl⟩
theorem q_506 : Cond.code yX6_release cX6_release 2 (some .int) ∈ ALL := List.mem_filter.mpr ⟨List.mem_of_getElem? (i := 506) (by decide +kernel), rfl⟩
theorem q_507 : Cond.methodLinkNest RX6 62 yX1_letGo RX6 ∈ NST := List.mem_filter.mpr ⟨List.mem_of_getElem? (i := 507) (by decide +kernel), rfl⟩
theorem q_509 : Cond.instanceMethod yX1_letGo ∈ ALL := List.mem_filter.mpr ⟨List.mem_of_getElem? (i := 509) (by decide +kernel), rfl⟩
theorem q_510 : Cond.code yX1_letGo cX1_letGo 3 (some .int) ∈ ALL := List.mem_filter.mpr ⟨List.mem_of_getElem? (i := 510) (by decide +kernel), rfl⟩
theorem q_511 : Cond.methodLink RL 40 yX6_session ∈ ALL := List.mem_filter.mpr ⟨List.mem_of_getElem? (i := 511) (by decide +kernel), rfl⟩
theorem q_512 : Cond.instanceMethod yX6_session ∈ ALL := List.mem_filter.mpr ⟨List.mem_of_getElem? (i := 512) (by decide +kernel), rfl⟩
theorem q_513 : Cond.selects RX6 yX6_session yX6_session ∈ ALL := List.mem_filter.mpr ⟨List.mem_of_getElem? (i := 513) (by decide +kernel), rfl⟩
theorem q_514 : Cond.code yX6_session cX6_session 1 (some .int) ∈ ALL := List.mem_filter.mpr ⟨List.mem_of_getElem? (i := 514) (by decide +kernel), rfl⟩
theorem q_515 : Cond.methodLinkNest RX6 65 yX1_holdSession RX6 ∈ NST := List.mem_filter.mpr ⟨List.mem_of_getElem? (i := 515) (by decide +kernel), rfl⟩
theorem q_517 : Cond.instanceMethod yX1_holdSession ∈ ALL := List.mem_filter.mpr ⟨List.mem_of_getElem? (i := 517) (by decide +kernel), rfl⟩
theorem q_518 : Cond.code yX1_holdSession cX1_holdSession 3 (some .int) ∈ ALL := List.mem_filter.mpr ⟨List.mem_of_getElem? (i := 518) (by decide +kernel), rfl⟩
theorem q_519 : Cond.methodLink RX1 134 yX1_wouldPass ∈ ALL := List.mem_filter.mpr ⟨List.mem_of_getElem? (i := 519) (by decide +kernel), rfl⟩
theorem q_521 : Cond.instanceMethod yX1_wouldPass ∈ ALL := List.mem_filter.mpr ⟨List.mem_of_getElem? (i := 521) (by decide +kernel), rfl⟩
theorem q_522 : Cond.code yX1_wouldPass cX1_wouldPass 2 (some .int) ∈ ALL := List.mem_filter.mpr ⟨List.mem_of_getElem? (i := 522) (by decide +kernel), rfl⟩
theorem q_523 : Cond.methodLinkNest RX1 138 yX0_enter RX6 ∈ NST := List.mem_filter.mpr ⟨List.mem_of_getElem? (i := 523) (by decide +kernel), rfl⟩
theorem q_525 : Cond.instanceMethod yX0_enter ∈ ALL := List.mem_filter.mpr ⟨List.mem_of_getElem? (i := 525) (by decide +kernel), rfl⟩
theorem q_526 : Cond.code yX0_enter cX0_enter 6 none ∈ ALL := List.mem_filter.mpr ⟨List.mem_of_getElem? (i := 526) (by decide +kernel), rfl⟩
theorem q_527 : Cond.methodLinkNest RX0 37 yX2_get RX6 ∈ NST := List.mem_filter.mpr ⟨List.mem_of_getElem? (i := 527) (by decide +kernel), rfl⟩
theorem q_528 : Cond.methodLinkNest RX0 41 yX2_put RX6 ∈ NST := List.mem_filter.mpr ⟨List.mem_of_getElem? (i := 528) (by decide +kernel), rfl⟩
theorem q_529 : Cond.methodLink RL 45 yX6_set ∈ ALL := List.mem_filter.mpr ⟨List.mem_of_getElem? (i := 529) (by decide +kernel), rfl⟩
theorem q_530 : Cond.instanceMethod yX6_set ∈ ALL := List.mem_filter.mpr ⟨List.mem_of_getElem? (i := 530) (by decide +kernel), rfl⟩
theorem q_531 : Cond.selects RX6 yX6_set yX6_set ∈ ALL := List.mem_filter.mpr ⟨List.mem_of_getElem? (i := 531) (by decide +kernel), rfl⟩
theorem q_532 : Cond.code yX6_set cX6_set 3 (some .int) ∈ ALL := List.mem_filter.mpr ⟨List.mem_of_getElem? (i := 532) (by decide +kernel), rfl⟩
theorem q_533 : Cond.constant RX6 69 (-1000001) ∈ ALL := List.mem_filter.mpr ⟨List.mem_of_getElem? (i := 533) (by decide +kernel), rfl⟩
theorem q_534 : Cond.methodLinkNest RX6 70 yX1_bindPulls RX6 ∈ NST := List.mem_filter.mpr ⟨List.mem_of_getElem? (i := 534) (by decide +kernel), rfl⟩
theorem q_536 : Cond.instanceMethod yX1_bindPulls ∈ ALL := List.mem_filter.mpr ⟨List.mem_of_getElem? (i := 536) (by decide +kernel), rfl⟩
theorem q_537 : Cond.code yX1_bindPulls cX1_bindPulls 3 (some .int) ∈ ALL := List.mem_filter.mpr ⟨List.mem_of_getElem? (i := 537) (by decide +kernel), rfl⟩
theorem q_538 : Cond.methodLink RL 49 yX6_puppetOf ∈ ALL := List.mem_filter.mpr ⟨List.mem_of_getElem? (i := 538) (by decide +kernel), rfl⟩
theorem q_539 : Cond.instanceMethod yX6_puppetOf ∈ ALL := List.mem_filter.mpr ⟨List.mem_of_getElem? (i := 539) (by decide +kernel), rfl⟩
theorem q_540 : Cond.selects RX6 yX6_puppetOf yX6_puppetOf ∈ ALL := List.mem_filter.mpr ⟨List.mem_of_getElem? (i := 540) (by decide +kernel), rfl⟩
theorem q_541 : Cond.code yX6_puppetOf cX6_puppetOf 4 (some .int) ∈ ALL := List.mem_filter.mpr ⟨List.mem_of_getElem? (i := 541) (by decide +kernel), rfl⟩
theorem q_542 : Cond.methodLinkNest RX6 73 yX1_hasPuppet RX6 ∈ NST := List.mem_filter.mpr ⟨List.mem_of_getElem? (i := 542) (by decide +kernel), rfl⟩
theorem q_543 : Cond.methodLinkNest RX6 81 yX2_get RX6 ∈ NST := List.mem_filter.mpr ⟨List.mem_of_getElem? (i := 543) (by decide +kernel), rfl⟩
theorem q_544 : Cond.methodLinkNest RX6 92 yX1_isPulled RX6 ∈ NST := List.mem_filter.mpr ⟨List.mem_of_getElem? (i := 544) (by decide +kernel), rfl⟩
theorem q_545 : Cond.constant RX6 98 (-1000004) ∈ ALL := List.mem_filter.mpr ⟨List.mem_of_getElem? (i := 545) (by decide +kernel), rfl⟩
theorem q_546 : Cond.methodLinkNest RX6 109 yX3_howManyAt RX6 ∈ NST := List.mem_filter.mpr ⟨List.mem_of_getElem? (i := 546) (by decide +kernel), rfl⟩
theorem q_548 : Cond.instanceMethod yX3_howManyAt ∈ ALL := List.mem_filter.mpr ⟨List.mem_of_getElem? (i := 548) (by decide +kernel), rfl⟩
theorem q_549 : Cond.code yX3_howManyAt cX3_howManyAt 4 (some .int) ∈ ALL := List.mem_filter.mpr ⟨List.mem_of_getElem? (i := 549) (by decide +kernel), rfl⟩
theorem q_550 : Cond.methodLinkNest RX6 114 yX1_membersOf RX6 ∈ NST := List.mem_filter.mpr ⟨List.mem_of_getElem? (i := 550) (by decide +kernel), rfl⟩
theorem q_552 : Cond.instanceMethod yX1_membersOf ∈ ALL := List.mem_filter.mpr ⟨List.mem_of_getElem? (i := 552) (by decide +kernel), rfl⟩
theorem q_553 : Cond.code yX1_membersOf cX1_membersOf 4 (some .int) ∈ ALL := List.mem_filter.mpr ⟨List.mem_of_getElem? (i := 553) (by decide +kernel), rfl⟩
theorem q_554 : Cond.methodLinkNest RX6 117 yX1_seatsIn RX6 ∈ NST := List.mem_filter.mpr ⟨List.mem_of_getElem? (i := 554) (by decide +kernel), rfl⟩
theorem q_556 : Cond.instanceMethod yX1_seatsIn ∈ ALL := List.mem_filter.mpr ⟨List.mem_of_getElem? (i := 556) (by decide +kernel), rfl⟩
theorem q_557 : Cond.code yX1_seatsIn cX1_seatsIn 4 (some .int) ∈ ALL := List.mem_filter.mpr ⟨List.mem_of_getElem? (i := 557) (by decide +kernel), rfl⟩
theorem q_558 : Cond.methodLinkNest RX1 174 yX6_isMember RX6 ∈ NST := List.mem_filter.mpr ⟨List.mem_of_getElem? (i := 558) (by decide +kernel), rfl⟩
theorem q_559 : Cond.static yX6_isMember ∈ ALL := List.mem_filter.mpr ⟨List.mem_of_getElem? (i := 559) (by decide +kernel), rfl⟩
theorem q_560 : Cond.code yX6_isMember cX6_isMember 2 (some .boolean) ∈ ALL := List.mem_filter.mpr ⟨List.mem_of_getElem? (i := 560) (by decide +kernel), rfl⟩
theorem q_561 : Cond.methodLink RL 53 yX6_stringOf ∈ ALL := List.mem_filter.mpr ⟨List.mem_of_getElem? (i := 561) (by decide +kernel), rfl⟩
theorem q_562 : Cond.instanceMethod yX6_stringOf ∈ ALL := List.mem_filter.mpr ⟨List.mem_of_getElem? (i := 562) (by decide +kernel), rfl⟩
theorem q_563 : Cond.selects RX6 yX6_stringOf yX6_stringOf ∈ ALL := List.mem_filter.mpr ⟨List.mem_of_getElem? (i := 563) (by decide +kernel), rfl⟩
theorem q_564 : Cond.code yX6_stringOf cX6_stringOf 3 (some .int) ∈ ALL := List.mem_filter.mpr ⟨List.mem_of_getElem? (i := 564) (by decide +kernel), rfl⟩
theorem q_565 : Cond.methodLinkNest RX6 120 yX3_has RX6 ∈ NST := List.mem_filter.mpr ⟨List.mem_of_getElem? (i := 565) (by decide +kernel), rfl⟩
theorem q_566 : Cond.methodLink RX6 135 yX6_hangTogetherWithout ∈ ALL := List.mem_filter.mpr ⟨List.mem_of_getElem? (i := 566) (by decide +kernel), rfl⟩
theorem q_568 : Cond.instanceMethod yX6_hangTogetherWithout ∈ ALL := List.mem_filter.mpr ⟨List.mem_of_getElem? (i := 568) (by decide +kernel), rfl⟩
theorem q_569 : Cond.code yX6_hangTogetherWithout cX6_hangTogetherWithout 2 (some .boolean) ∈ ALL := List.mem_filter.mpr ⟨List.mem_of_getElem? (i := 569) (by decide +kernel), rfl⟩
theorem q_570 : Cond.methodLinkNest RX6 138 yX1_hangTogether RX6 ∈ NST := List.mem_filter.mpr ⟨List.mem_of_getElem? (i := 570) (by decide +kernel), rfl⟩
theorem q_571 : Cond.methodLink RL 57 yX6_between ∈ ALL := List.mem_filter.mpr ⟨List.mem_of_getElem? (i := 571) (by decide +kernel), rfl⟩
theorem q_572 : Cond.instanceMethod yX6_between ∈ ALL := List.mem_filter.mpr ⟨List.mem_of_getElem? (i := 572) (by decide +kernel), rfl⟩
theorem q_573 : Cond.selects RX6 yX6_between yX6_between ∈ ALL := List.mem_filter.mpr ⟨List.mem_of_getElem? (i := 573) (by decide +kernel), rfl⟩
theorem q_574 : Cond.code yX6_between cX6_between 5 (some .int) ∈ ALL := List.mem_filter.mpr ⟨List.mem_of_getElem? (i := 574) (by decide +kernel), rfl⟩
theorem q_575 : Cond.methodLink RX6 142 yX6_isMember ∈ ALL := List.mem_filter.mpr ⟨List.mem_of_getElem? (i := 575) (by decide +kernel), rfl⟩
theorem q_576 : Cond.methodLinkNest RX6 145 yX3_oneStringFurther RX6 ∈ NST := List.mem_filter.mpr ⟨List.mem_of_getElem? (i := 576) (by decide +kernel), rfl⟩
theorem q_578 : Cond.instanceMethod yX3_oneStringFurther ∈ ALL := List.mem_filter.mpr ⟨List.mem_of_getElem? (i := 578) (by decide +kernel), rfl⟩
theorem q_579 : Cond.code yX3_oneStringFurther cX3_oneStringFurther 5 (some .int) ∈ ALL := List.mem_filter.mpr ⟨List.mem_of_getElem? (i := 579) (by decide +kernel), rfl⟩
theorem q_580 : Cond.methodLink RL 61 yX6_book ∈ ALL := List.mem_filter.mpr ⟨List.mem_of_getElem? (i := 580) (by decide +kernel), rfl⟩
theorem q_581 : Cond.instanceMethod yX6_book ∈ ALL := List.mem_filter.mpr ⟨List.mem_of_getElem? (i := 581) (by decide +kernel), rfl⟩
theorem q_582 : Cond.selects RX6 yX6_book yX6_book ∈ ALL := List.mem_filter.mpr ⟨List.mem_of_getElem? (i := 582) (by decide +kernel), rfl⟩
theorem q_583 : Cond.code yX6_book cX6_book 3 (some .int) ∈ ALL := List.mem_filter.mpr ⟨List.mem_of_getElem? (i := 583) (by decide +kernel), rfl⟩
theorem q_584 : Cond.methodLink RX6 148 yX6_isIn ∈ ALL := List.mem_filter.mpr ⟨List.mem_of_getElem? (i := 584) (by decide +kernel), rfl⟩
theorem q_585 : Cond.methodLinkNest RX6 156 yX0_kept RX6 ∈ NST := List.mem_filter.mpr ⟨List.mem_of_getElem? (i := 585) (by decide +kernel), rfl⟩
theorem q_587 : Cond.instanceMethod yX0_kept ∈ ALL := List.mem_filter.mpr ⟨List.mem_of_getElem? (i := 587) (by decide +kernel), rfl⟩
theorem q_588 : Cond.code yX0_kept cX0_kept 1 (some .int) ∈ ALL := List.mem_filter.mpr ⟨List.mem_of_getElem? (i := 588) (by decide +kernel), rfl⟩
theorem q_589 : Cond.methodLink RX0 31 yJ9_min_7cf53 ∈ ALL := List.mem_filter.mpr ⟨List.mem_of_getElem? (i := 589) (by decide +kernel), rfl⟩
theorem q_590 : Cond.methodLinkNest RX6 161 yX0_entry RX6 ∈ NST := List.mem_filter.mpr ⟨List.mem_of_getElem? (i := 590) (by decide +kernel), rfl⟩
theorem q_592 : Cond.instanceMethod yX0_entry ∈ ALL := List.mem_filter.mpr ⟨List.mem_of_getElem? (i := 592) (by decide +kernel), rfl⟩
theorem q_593 : Cond.code yX0_entry cX0_entry 3 (some .int) ∈ ALL := List.mem_filter.mpr ⟨List.mem_of_getElem? (i := 593) (by decide +kernel), rfl⟩
theorem q_594 : Cond.methodLink RL 65 yX6_whyTie ∈ ALL := List.mem_filter.mpr ⟨List.mem_of_getElem? (i := 594) (by decide +kernel), rfl⟩
theorem q_595 : Cond.instanceMethod yX6_whyTie ∈ ALL := List.mem_filter.mpr ⟨List.mem_of_getElem? (i := 595) (by decide +kernel), rfl⟩
theorem q_596 : Cond.selects RX6 yX6_whyTie yX6_whyTie ∈ ALL := List.mem_filter.mpr ⟨List.mem_of_getElem? (i := 596) (by decide +kernel), rfl⟩
theorem q_597 : Cond.code yX6_whyTie cX6_whyTie 4 (some .int) ∈ ALL := List.mem_filter.mpr ⟨List.mem_of_getElem? (i := 597) (by decide +kernel), rfl⟩
theorem q_598 : Cond.methodLinkNest RX6 164 yX1_arePair RX6 ∈ NST := List.mem_filter.mpr ⟨List.mem_of_getElem? (i := 598) (by decide +kernel), rfl⟩
theorem q_599 : Cond.methodLinkNest RX6 167 yX1_reasonAgainstString RX6 ∈ NST := List.mem_filter.mpr ⟨List.mem_of_getElem? (i := 599) (by decide +kernel), rfl⟩
theorem q_600 : Cond.methodLink RL 70 yX6_whyPull ∈ ALL := List.mem_filter.mpr ⟨List.mem_of_getElem? (i := 600) (by decide +kernel), rfl⟩
theorem q_601 : Cond.instanceMethod yX6_whyPull ∈ ALL := List.mem_filter.mpr ⟨List.mem_of_getElem? (i := 601) (by decide +kernel), rfl⟩
theorem q_602 : Cond.selects RX6 yX6_whyPull yX6_whyPull ∈ ALL := List.mem_filter.mpr ⟨List.mem_of_getElem? (i := 602) (by decide +kernel), rfl⟩
theorem q_603 : Cond.code yX6_whyPull cX6_whyPull 3 (some .int) ∈ ALL := List.mem_filter.mpr ⟨List.mem_of_getElem? (i := 603) (by decide +kernel), rfl⟩
theorem q_604 : Cond.methodLinkNest RX6 171 yX1_reasonAgainstPull RX6 ∈ NST := List.mem_filter.mpr ⟨List.mem_of_getElem? (i := 604) (by decide +kernel), rfl⟩
theorem q_605 : Cond.methodLink RL 74 yX6_bestPull ∈ ALL := List.mem_filter.mpr ⟨List.mem_of_getElem? (i := 605) (by decide +kernel), rfl⟩
theorem q_606 : Cond.instanceMethod yX6_bestPull ∈ ALL := List.mem_filter.mpr ⟨List.mem_of_getElem? (i := 606) (by decide +kernel), rfl⟩
theorem q_607 : Cond.selects RX6 yX6_bestPull yX6_bestPull ∈ ALL := List.mem_filter.mpr ⟨List.mem_of_getElem? (i := 607) (by decide +kernel), rfl⟩
theorem q_608 : Cond.code yX6_bestPull cX6_bestPull 6 (some .int) ∈ ALL := List.mem_filter.mpr ⟨List.mem_of_getElem? (i := 608) (by decide +kernel), rfl⟩
theorem q_609 : Cond.methodLink RX6 181 yX6_seatsIfPulled ∈ ALL := List.mem_filter.mpr ⟨List.mem_of_getElem? (i := 609) (by decide +kernel), rfl⟩
theorem q_611 : Cond.instanceMethod yX6_seatsIfPulled ∈ ALL := List.mem_filter.mpr ⟨List.mem_of_getElem? (i := 611) (by decide +kernel), rfl⟩
theorem q_612 : Cond.code yX6_seatsIfPulled cX6_seatsIfPulled 3 (some .int) ∈ ALL := List.mem_filter.mpr ⟨List.mem_of_getElem? (i := 612) (by decide +kernel), rfl⟩
theorem q_613 : Cond.methodLink RX6 184 yJ9_max_7cf53 ∈ ALL := List.mem_filter.mpr ⟨List.mem_of_getElem? (i := 613) (by decide +kernel), rfl⟩
theorem q_614 : Cond.methodLink RL 78 yX6_fewest ∈ ALL := List.mem_filter.mpr ⟨List.mem_of_getElem? (i := 614) (by decide +kernel), rfl⟩
theorem q_615 : Cond.instanceMethod yX6_fewest ∈ ALL := List.mem_filter.mpr ⟨List.mem_of_getElem? (i := 615) (by decide +kernel), rfl⟩
theorem q_616 : Cond.selects RX6 yX6_fewest yX6_fewest ∈ ALL := List.mem_filter.mpr ⟨List.mem_of_getElem? (i := 616) (by decide +kernel), rfl⟩
theorem q_617 : Cond.code yX6_fewest cX6_fewest 3 (some .int) ∈ ALL := List.mem_filter.mpr ⟨List.mem_of_getElem? (i := 617) (by decide +kernel), rfl⟩
theorem q_618 : Cond.methodLinkNest RX6 189 yX5_collect RX6 ∈ NST := List.mem_filter.mpr ⟨List.mem_of_getElem? (i := 618) (by decide +kernel), rfl⟩
theorem q_620 : Cond.instanceMethod yX5_collect ∈ ALL := List.mem_filter.mpr ⟨List.mem_of_getElem? (i := 620) (by decide +kernel), rfl⟩
theorem q_621 : Cond.code yX5_collect cX5_collect 6 none ∈ ALL := List.mem_filter.mpr ⟨List.mem_of_getElem? (i := 621) (by decide +kernel), rfl⟩
theorem q_622 : Cond.methodLinkNest RX5 38 yX1_membersOf RX6 ∈ NST := List.mem_filter.mpr ⟨List.mem_of_getElem? (i := 622) (by decide +kernel), rfl⟩
theorem q_623 : Cond.methodLinkNest RX5 42 yX1_yesVoters RX6 ∈ NST := List.mem_filter.mpr ⟨List.mem_of_getElem? (i := 623) (by decide +kernel), rfl⟩
theorem q_625 : Cond.instanceMethod yX1_yesVoters ∈ ALL := List.mem_filter.mpr ⟨List.mem_of_getElem? (i := 625) (by decide +kernel), rfl⟩
theorem q_626 : Cond.code yX1_yesVoters cX1_yesVoters 3 (some .int) ∈ ALL := List.mem_filter.mpr ⟨List.mem_of_getElem? (i := 626) (by decide +kernel), rfl⟩
theorem q_627 : Cond.methodLinkNest RX5 46 yX1_seatsIn RX6 ∈ NST := List.mem_filter.mpr ⟨List.mem_of_getElem? (i := 627) (by decide +kernel), rfl⟩
theorem q_628 : Cond.methodLinkNest RX5 49 yX2_put RX6 ∈ NST := List.mem_filter.mpr ⟨List.mem_of_getElem? (i := 628) (by decide +kernel), rfl⟩
theorem q_629 : Cond.methodLinkNest RX6 192 yX5_fewestByTheBest RX6 ∈ NST := List.mem_filter.mpr ⟨List.mem_of_getElem? (i := 629) (by decide +kernel), rfl⟩
theorem q_631 : Cond.instanceMethod yX5_fewestByTheBest ∈ ALL := List.mem_filter.mpr ⟨List.mem_of_getElem? (i := 631) (by decide +kernel), rfl⟩
theorem q_632 : Cond.code yX5_fewestByTheBest cX5_fewestByTheBest 5 (some .int) ∈ ALL := List.mem_filter.mpr ⟨List.mem_of_getElem? (i := 632) (by decide +kernel), rfl⟩
theorem q_633 : Cond.methodLink RX5 53 yX5_bestBut ∈ ALL := List.mem_filter.mpr ⟨List.mem_of_getElem? (i := 633) (by decide +kernel), rfl⟩
theorem q_635 : Cond.instanceMethod yX5_bestBut ∈ ALL := List.mem_filter.mpr ⟨List.mem_of_getElem? (i := 635) (by decide +kernel), rfl⟩
theorem q_636 : Cond.code yX5_bestBut cX5_bestBut 4 (some .int) ∈ ALL := List.mem_filter.mpr ⟨List.mem_of_getElem? (i := 636) (by decide +kernel), rfl⟩
theorem q_637 : Cond.methodLinkNest RX5 59 yX6_isMember RX6 ∈ NST := List.mem_filter.mpr ⟨List.mem_of_getElem? (i := 637) (by decide +kernel), rfl⟩
theorem q_638 : Cond.methodLinkNest RX5 56 yX2_get RX6 ∈ NST := List.mem_filter.mpr ⟨List.mem_of_getElem? (i := 638) (by decide +kernel), rfl⟩
theorem q_639 : Cond.methodLinkNest RX6 195 yX5_fewestOfAllSets RX6 ∈ NST := List.mem_filter.mpr ⟨List.mem_of_getElem? (i := 639) (by decide +kernel), rfl⟩
theorem q_641 : Cond.instanceMethod yX5_fewestOfAllSets ∈ ALL := List.mem_filter.mpr ⟨List.mem_of_getElem? (i := 641) (by decide +kernel), rfl⟩
theorem q_642 : Cond.code yX5_fewestOfAllSets cX5_fewestOfAllSets 5 (some .int) ∈ ALL := List.mem_filter.mpr ⟨List.mem_of_getElem? (i := 642) (by decide +kernel), rfl⟩
theorem q_643 : Cond.methodLink RX5 63 yX5_stepTo ∈ ALL := List.mem_filter.mpr ⟨List.mem_of_getElem? (i := 643) (by decide +kernel), rfl⟩
theorem q_645 : Cond.instanceMethod yX5_stepTo ∈ ALL := List.mem_filter.mpr ⟨List.mem_of_getElem? (i := 645) (by decide +kernel), rfl⟩
theorem q_646 : Cond.code yX5_stepTo cX5_stepTo 4 (some .int) ∈ ALL := List.mem_filter.mpr ⟨List.mem_of_getElem? (i := 646) (by decide +kernel), rfl⟩
theorem q_647 : Cond.methodLink RX5 66 yJ6_bitCount_0f7a4 ∈ ALL := List.mem_filter.mpr ⟨List.mem_of_getElem? (i := 647) (by decide +kernel), rfl⟩
theorem q_648 : Cond.static yJ6_bitCount_0f7a4 ∈ ALL := List.mem_filter.mpr ⟨List.mem_of_getElem? (i := 648) (by decide +kernel), rfl⟩
theorem q_649 : Cond.code yJ6_bitCount_0f7a4 cJ6_bitCount_0f7a4 1 (some .int) ∈ ALL := List.mem_filter.mpr ⟨List.mem_of_getElem? (i := 649) (by decide +kernel), rfl⟩
theorem q_650 : Cond.constant RJ6 265 (1431655765) ∈ ALL := List.mem_filter.mpr ⟨List.mem_of_getElem? (i := 650) (by decide +kernel), rfl⟩
theorem q_651 : Cond.constant RJ6 266 (858993459) ∈ ALL := List.mem_filter.mpr ⟨List.mem_of_getElem? (i := 651) (by decide +kernel), rfl⟩
theorem q_652 : Cond.constant RJ6 267 (252645135) ∈ ALL := List.mem_filter.mpr ⟨List.mem_of_getElem? (i := 652) (by decide +kernel), rfl⟩
theorem q_653 : Cond.methodLink RL 82 yX6_ifCut ∈ ALL := List.mem_filter.mpr ⟨List.mem_of_getElem? (i := 653) (by decide +kernel), rfl⟩
theorem q_654 : Cond.instanceMethod yX6_ifCut ∈ ALL := List.mem_filter.mpr ⟨List.mem_of_getElem? (i := 654) (by decide +kernel), rfl⟩
theorem q_655 : Cond.selects RX6 yX6_ifCut yX6_ifCut ∈ ALL := List.mem_filter.mpr ⟨List.mem_of_getElem? (i := 655) (by decide +kernel), rfl⟩
theorem q_656 : Cond.code yX6_ifCut cX6_ifCut 3 (some .int) ∈ ALL := List.mem_filter.mpr ⟨List.mem_of_getElem? (i := 656) (by decide +kernel), rfl⟩
theorem q_657 : Cond.methodLinkNest RX6 198 yX1_groupsByJoining RX6 ∈ NST := List.mem_filter.mpr ⟨List.mem_of_getElem? (i := 657) (by decide +kernel), rfl⟩
theorem q_659 : Cond.instanceMethod yX1_groupsByJoining ∈ ALL := List.mem_filter.mpr ⟨List.mem_of_getElem? (i := 659) (by decide +kernel), rfl⟩
theorem q_660 : Cond.code yX1_groupsByJoining cX1_groupsByJoining 3 (some .int) ∈ ALL := List.mem_filter.mpr ⟨List.mem_of_getElem? (i := 660) (by decide +kernel), rfl⟩
theorem q_661 : Cond.methodLink RL 86 yX6_share ∈ ALL := List.mem_filter.mpr ⟨List.mem_of_getElem? (i := 661) (by decide +kernel), rfl⟩
theorem q_662 : Cond.instanceMethod yX6_share ∈ ALL := List.mem_filter.mpr ⟨List.mem_of_getElem? (i := 662) (by decide +kernel), rfl⟩
theorem q_663 : Cond.selects RX6 yX6_share yX6_share ∈ ALL := List.mem_filter.mpr ⟨List.mem_of_getElem? (i := 663) (by decide +kernel), rfl⟩
theorem q_664 : Cond.code yX6_share cX6_share 2 (some .int) ∈ ALL := List.mem_filter.mpr ⟨List.mem_of_getElem? (i := 664) (by decide +kernel), rfl⟩
theorem q_665 : Cond.methodLink RX6 204 yX6_bitsOf ∈ ALL := List.mem_filter.mpr ⟨List.mem_of_getElem? (i := 665) (by decide +kernel), rfl⟩
theorem q_666 : Cond.static yX6_bitsOf ∈ ALL := List.mem_filter.mpr ⟨List.mem_of_getElem? (i := 666) (by decide +kernel), rfl⟩
theorem q_667 : Cond.code yX6_bitsOf cX6_bitsOf 4 (some .int) ∈ ALL := List.mem_filter.mpr ⟨List.mem_of_getElem? (i := 667) (by decide +kernel), rfl⟩
theorem q_668 : Cond.constantFloat RX6 208 1258291200 ∈ ALL := List.mem_filter.mpr ⟨List.mem_of_getElem? (i := 668) (by decide +kernel), rfl⟩
theorem q_669 : Cond.methodLink RL 90 yX6_count ∈ ALL := List.mem_filter.mpr ⟨List.mem_of_getElem? (i := 669) (by decide +kernel), rfl⟩
theorem q_670 : Cond.instanceMethod yX6_count ∈ ALL := List.mem_filter.mpr ⟨List.mem_of_getElem? (i := 670) (by decide +kernel), rfl⟩
theorem q_671 : Cond.selects RX6 yX6_count yX6_count ∈ ALL := List.mem_filter.mpr ⟨List.mem_of_getElem? (i := 671) (by decide +kernel), rfl⟩
theorem q_672 : Cond.code yX6_count cX6_count 2 (some .int) ∈ ALL := List.mem_filter.mpr ⟨List.mem_of_getElem? (i := 672) (by decide +kernel), rfl⟩
theorem q_673 : Cond.methodLinkNest RX6 212 yX1_groupsByWalking RX6 ∈ NST := List.mem_filter.mpr ⟨List.mem_of_getElem? (i := 673) (by decide +kernel), rfl⟩
theorem q_675 : Cond.instanceMethod yX1_groupsByWalking ∈ ALL := List.mem_filter.mpr ⟨List.mem_of_getElem? (i := 675) (by decide +kernel), rfl⟩
theorem q_676 : Cond.code yX1_groupsByWalking cX1_groupsByWalking 4 (some .int) ∈ ALL := List.mem_filter.mpr ⟨List.mem_of_getElem? (i := 676) (by decide +kernel), rfl⟩
theorem q_677 : Cond.methodLink RX1 177 yX1_walkFrom ∈ ALL := List.mem_filter.mpr ⟨List.mem_of_getElem? (i := 677) (by decide +kernel), rfl⟩
theorem q_679 : Cond.instanceMethod yX1_walkFrom ∈ ALL := List.mem_filter.mpr ⟨List.mem_of_getElem? (i := 679) (by decide +kernel), rfl⟩
theorem q_680 : Cond.code yX1_walkFrom cX1_walkFrom 4 (some .int) ∈ ALL := List.mem_filter.mpr ⟨List.mem_of_getElem? (i := 680) (by decide +kernel), rfl⟩
theorem q_681 : Cond.methodLinkNest RX1 180 yX3_oneStringFurther RX6 ∈ NST := List.mem_filter.mpr ⟨List.mem_of_getElem? (i := 681) (by decide +kernel), rfl⟩
theorem q_682 : Cond.methodLinkNest RX6 215 yX1_wouldPass RX6 ∈ NST := List.mem_filter.mpr ⟨List.mem_of_getElem? (i := 682) (by decide +kernel), rfl⟩
theorem q_683 : Cond.methodLinkNest RX6 221 yX1_pulledPuppets RX6 ∈ NST := List.mem_filter.mpr ⟨List.mem_of_getElem? (i := 683) (by decide +kernel), rfl⟩
theorem q_685 : Cond.instanceMethod yX1_pulledPuppets ∈ ALL := List.mem_filter.mpr ⟨List.mem_of_getElem? (i := 685) (by decide +kernel), rfl⟩
theorem q_686 : Cond.code yX1_pulledPuppets cX1_pulledPuppets 3 (some .int) ∈ ALL := List.mem_filter.mpr ⟨List.mem_of_getElem? (i := 686) (by decide +kernel), rfl⟩
theorem q_687 : Cond.methodLink RL 94 yX6_undo ∈ ALL := List.mem_filter.mpr ⟨List.mem_of_getElem? (i := 687) (by decide +kernel), rfl⟩
theorem q_688 : Cond.instanceMethod yX6_undo ∈ ALL := List.mem_filter.mpr ⟨List.mem_of_getElem? (i := 688) (by decide +kernel), rfl⟩
theorem q_689 : Cond.selects RX6 yX6_undo yX6_undo ∈ ALL := List.mem_filter.mpr ⟨List.mem_of_getElem? (i := 689) (by decide +kernel), rfl⟩
theorem q_690 : Cond.code yX6_undo cX6_undo 2 (some .int) ∈ ALL := List.mem_filter.mpr ⟨List.mem_of_getElem? (i := 690) (by decide +kernel), rfl⟩
theorem q_691 : Cond.constant RX6 242 (-1000002) ∈ ALL := List.mem_filter.mpr ⟨List.mem_of_getElem? (i := 691) (by decide +kernel), rfl⟩
theorem q_692 : Cond.methodLink RL 98 yX6_type ∈ ALL := List.mem_filter.mpr ⟨List.mem_of_getElem? (i := 692) (by decide +kernel), rfl⟩
theorem q_693 : Cond.instanceMethod yX6_type ∈ ALL := List.mem_filter.mpr ⟨List.mem_of_getElem? (i := 693) (by decide +kernel), rfl⟩
theorem q_694 : Cond.selects RX6 yX6_type yX6_type ∈ ALL := List.mem_filter.mpr ⟨List.mem_of_getElem? (i := 694) (by decide +kernel), rfl⟩
theorem q_695 : Cond.code yX6_type cX6_type 2 (some .int) ∈ ALL := List.mem_filter.mpr ⟨List.mem_of_getElem? (i := 695) (by decide +kernel), rfl⟩
theorem q_696 : Cond.methodLinkNest RX6 247 yX4_append RX6 ∈ NST := List.mem_filter.mpr ⟨List.mem_of_getElem? (i := 696) (by decide +kernel), rfl⟩
theorem q_698 : Cond.instanceMethod yX4_append ∈ ALL := List.mem_filter.mpr ⟨List.mem_of_getElem? (i := 698) (by decide +kernel), rfl⟩
theorem q_699 : Cond.code yX4_append cX4_append 2 (some .boolean) ∈ ALL := List.mem_filter.mpr ⟨List.mem_of_getElem? (i := 699) (by decide +kernel), rfl⟩
theorem q_700 : Cond.methodLinkNest RX4 27 yX2_put RX6 ∈ NST := List.mem_filter.mpr ⟨List.mem_of_getElem? (i := 700) (by decide +kernel), rfl⟩
theorem q_701 : Cond.constant RX6 250 (-1000003) ∈ ALL := List.mem_filter.mpr ⟨List.mem_of_getElem? (i := 701) (by decide +kernel), rfl⟩
theorem q_702 : Cond.methodLink RL 102 yX6_clearText ∈ ALL := List.mem_filter.mpr ⟨List.mem_of_getElem? (i := 702) (by decide +kernel), rfl⟩
theorem q_703 : Cond.instanceMethod yX6_clearText ∈ ALL := List.mem_filter.mpr ⟨List.mem_of_getElem? (i := 703) (by decide +kernel), rfl⟩
theorem q_704 : Cond.selects RX6 yX6_clearText yX6_clearText ∈ ALL := List.mem_filter.mpr ⟨List.mem_of_getElem? (i := 704) (by decide +kernel), rfl⟩
theorem q_705 : Cond.code yX6_clearText cX6_clearText 2 (some .int) ∈ ALL := List.mem_filter.mpr ⟨List.mem_of_getElem? (i := 705) (by decide +kernel), rfl⟩
theorem q_706 : Cond.methodLink RL 106 yX6_fault ∈ ALL := List.mem_filter.mpr ⟨List.mem_of_getElem? (i := 706) (by decide +kernel), rfl⟩
theorem q_707 : Cond.instanceMethod yX6_fault ∈ ALL := List.mem_filter.mpr ⟨List.mem_of_getElem? (i := 707) (by decide +kernel), rfl⟩
theorem q_708 : Cond.selects RX6 yX6_fault yX6_fault ∈ ALL := List.mem_filter.mpr ⟨List.mem_of_getElem? (i := 708) (by decide +kernel), rfl⟩
theorem q_709 : Cond.code yX6_fault cX6_fault 2 (some .int) ∈ ALL := List.mem_filter.mpr ⟨List.mem_of_getElem? (i := 709) (by decide +kernel), rfl⟩
theorem q_710 : Cond.methodLink RX6 251 yX6_tryOrders ∈ ALL := List.mem_filter.mpr ⟨List.mem_of_getElem? (i := 710) (by decide +kernel), rfl⟩
theorem q_712 : Cond.instanceMethod yX6_tryOrders ∈ ALL := List.mem_filter.mpr ⟨List.mem_of_getElem? (i := 712) (by decide +kernel), rfl⟩
theorem q_713 : Cond.code yX6_tryOrders cX6_tryOrders 4 (some .boolean) ∈ ALL := List.mem_filter.mpr ⟨List.mem_of_getElem? (i := 713) (by decide +kernel), rfl⟩
theorem q_714 : Cond.methodLinkNest RX6 267 yX4_readOrder RX6 ∈ NST := List.mem_filter.mpr ⟨List.mem_of_getElem? (i := 714) (by decide +kernel), rfl⟩
theorem q_716 : Cond.instanceMethod yX4_readOrder ∈ ALL := List.mem_filter.mpr ⟨List.mem_of_getElem? (i := 716) (by decide +kernel), rfl⟩
theorem q_717 : Cond.code yX4_readOrder cX4_readOrder 4 (some .boolean) ∈ ALL := List.mem_filter.mpr ⟨List.mem_of_getElem? (i := 717) (by decide +kernel), rfl⟩
theorem q_718 : Cond.methodLink RX4 38 yX4_current ∈ ALL := List.mem_filter.mpr ⟨List.mem_of_getElem? (i := 718) (by decide +kernel), rfl⟩
theorem q_720 : Cond.instanceMethod yX4_current ∈ ALL := List.mem_filter.mpr ⟨List.mem_of_getElem? (i := 720) (by decide +kernel), rfl⟩
theorem q_721 : Cond.code yX4_current cX4_current 1 (some .int) ∈ ALL := List.mem_filter.mpr ⟨List.mem_of_getElem? (i := 721) (by decide +kernel), rfl⟩
theorem q_722 : Cond.methodLinkNest RX4 34 yX2_get RX6 ∈ NST := List.mem_filter.mpr ⟨List.mem_of_getElem? (i := 722) (by decide +kernel), rfl⟩
theorem q_723 : Cond.methodLink RX4 45 yX4_numbersBehind ∈ ALL := List.mem_filter.mpr ⟨List.mem_of_getElem? (i := 723) (by decide +kernel), rfl⟩
theorem q_724 : Cond.static yX4_numbersBehind ∈ ALL := List.mem_filter.mpr ⟨List.mem_of_getElem? (i := 724) (by decide +kernel), rfl⟩
theorem q_725 : Cond.code yX4_numbersBehind cX4_numbersBehind 1 (some .int) ∈ ALL := List.mem_filter.mpr ⟨List.mem_of_getElem? (i := 725) (by decide +kernel), rfl⟩
theorem q_726 : Cond.methodLink RX4 48 yX4_skip ∈ ALL := List.mem_filter.mpr ⟨List.mem_of_getElem? (i := 726) (by decide +kernel), rfl⟩
theorem q_728 : Cond.instanceMethod yX4_skip ∈ ALL := List.mem_filter.mpr ⟨List.mem_of_getElem? (i := 728) (by decide +kernel), rfl⟩
theorem q_729 : Cond.code yX4_skip cX4_skip 2 (some .boolean) ∈ ALL := List.mem_filter.mpr ⟨List.mem_of_getElem? (i := 729) (by decide +kernel), rfl⟩
theorem q_730 : Cond.methodLink RX4 52 yX4_readNumber ∈ ALL := List.mem_filter.mpr ⟨List.mem_of_getElem? (i := 730) (by decide +kernel), rfl⟩
theorem q_732 : Cond.instanceMethod yX4_readNumber ∈ ALL := List.mem_filter.mpr ⟨List.mem_of_getElem? (i := 732) (by decide +kernel), rfl⟩
theorem q_733 : Cond.code yX4_readNumber cX4_readNumber 3 (some .boolean) ∈ ALL := List.mem_filter.mpr ⟨List.mem_of_getElem? (i := 733) (by decide +kernel), rfl⟩
theorem q_734 : Cond.methodLink RX4 55 yX4_isDigit ∈ ALL := List.mem_filter.mpr ⟨List.mem_of_getElem? (i := 734) (by decide +kernel), rfl⟩
theorem q_735 : Cond.static yX4_isDigit ∈ ALL := List.mem_filter.mpr ⟨List.mem_of_getElem? (i := 735) (by decide +kernel), rfl⟩
theorem q_736 : Cond.code yX4_isDigit cX4_isDigit 1 (some .boolean) ∈ ALL := List.mem_filter.mpr ⟨List.mem_of_getElem? (i := 736) (by decide +kernel), rfl⟩
theorem q_737 : Cond.methodLinkNest RX4 58 yX6_isIn RX6 ∈ NST := List.mem_filter.mpr ⟨List.mem_of_getElem? (i := 737) (by decide +kernel), rfl⟩
theorem q_738 : Cond.methodLink RX6 273 yX6_foundFault ∈ ALL := List.mem_filter.mpr ⟨List.mem_of_getElem? (i := 738) (by decide +kernel), rfl⟩
theorem q_740 : Cond.instanceMethod yX6_foundFault ∈ ALL := List.mem_filter.mpr ⟨List.mem_of_getElem? (i := 740) (by decide +kernel), rfl⟩
theorem q_741 : Cond.code yX6_foundFault cX6_foundFault 4 (some .boolean) ∈ ALL := List.mem_filter.mpr ⟨List.mem_of_getElem? (i := 741) (by decide +kernel), rfl⟩
theorem q_742 : Cond.methodLink RX6 276 yX6_obey ∈ ALL := List.mem_filter.mpr ⟨List.mem_of_getElem? (i := 742) (by decide +kernel), rfl⟩
theorem q_744 : Cond.instanceMethod yX6_obey ∈ ALL := List.mem_filter.mpr ⟨List.mem_of_getElem? (i := 744) (by decide +kernel), rfl⟩
theorem q_745 : Cond.code yX6_obey cX6_obey 4 (some .int) ∈ ALL := List.mem_filter.mpr ⟨List.mem_of_getElem? (i := 745) (by decide +kernel), rfl⟩
theorem q_746 : Cond.methodLink RL 110 yX6_play ∈ ALL := List.mem_filter.mpr ⟨List.mem_of_getElem? (i := 746) (by decide +kernel), rfl⟩
theorem q_747 : Cond.instanceMethod yX6_play ∈ ALL := List.mem_filter.mpr ⟨List.mem_of_getElem? (i := 747) (by decide +kernel), rfl⟩
theorem q_748 : Cond.selects RX6 yX6_play yX6_play ∈ ALL := List.mem_filter.mpr ⟨List.mem_of_getElem? (i := 748) (by decide +kernel), rfl⟩
theorem q_749 : Cond.code yX6_play cX6_play 1 (some .int) ∈ ALL := List.mem_filter.mpr ⟨List.mem_of_getElem? (i := 749) (by decide +kernel), rfl⟩
theorem q_750 : Cond.classLink RL 10 RX7 ∈ ALL := List.mem_filter.mpr ⟨List.mem_of_getElem? (i := 750) (by decide +kernel), rfl⟩
theorem q_751 : Cond.instantiable RX7 18 ∈ ALL := List.mem_filter.mpr ⟨List.mem_of_getElem? (i := 751) (by decide +kernel), rfl⟩
theorem q_752 : Cond.methodLink RL 12 yX7_init ∈ ALL := List.mem_filter.mpr ⟨List.mem_of_getElem? (i := 752) (by decide +kernel), rfl⟩
theorem q_753 : Cond.instanceMethod yX7_init ∈ ALL := List.mem_filter.mpr ⟨List.mem_of_getElem? (i := 753) (by decide +kernel), rfl⟩
theorem q_754 : Cond.code yX7_init cX7_init 1 none ∈ ALL := List.mem_filter.mpr ⟨List.mem_of_getElem? (i := 754) (by decide +kernel), rfl⟩
theorem q_755 : Cond.methodLink RX7 1 objectInit ∈ ALL := List.mem_filter.mpr ⟨List.mem_of_getElem? (i := 755) (by decide +kernel), rfl⟩
theorem q_756 : Cond.fieldLink RX7 7 "StringVotesModel" "s" "[I" ∈ ALL := List.mem_filter.mpr ⟨List.mem_of_getElem? (i := 756) (by decide +kernel), rfl⟩
theorem q_757 : Cond.fieldLink RX7 13 "StringVotesModel" "past" "[I" ∈ ALL := List.mem_filter.mpr ⟨List.mem_of_getElem? (i := 757) (by decide +kernel), rfl⟩
theorem q_758 : Cond.fieldLink RX7 16 "StringVotesModel" "held" "[I" ∈ ALL := List.mem_filter.mpr ⟨List.mem_of_getElem? (i := 758) (by decide +kernel), rfl⟩
theorem q_759 : Cond.fieldLink RX7 41 "StringVotesModel" "pasts" "I" ∈ ALL := List.mem_filter.mpr ⟨List.mem_of_getElem? (i := 759) (by decide +kernel), rfl⟩
theorem q_760 : Cond.fieldLink RX7 37 "StringVotesModel" "runs" "Z" ∈ ALL := List.mem_filter.mpr ⟨List.mem_of_getElem? (i := 760) (by decide +kernel), rfl⟩
theorem q_761 : Cond.fieldLink RX7 19 "StringVotesModel" "text" "[I" ∈ ALL := List.mem_filter.mpr ⟨List.mem_of_getElem? (i := 761) (by decide +kernel), rfl⟩
theorem q_762 : Cond.fieldLink RX7 160 "StringVotesModel" "typed" "I" ∈ ALL := List.mem_filter.mpr ⟨List.mem_of_getElem? (i := 762) (by decide +kernel), rfl⟩
theorem q_763 : Cond.fieldLink RX7 22 "StringVotesModel" "low" "[I" ∈ ALL := List.mem_filter.mpr ⟨List.mem_of_getElem? (i := 763) (by decide +kernel), rfl⟩
theorem q_764 : Cond.fieldLink RX7 25 "StringVotesModel" "side" "[I" ∈ ALL := List.mem_filter.mpr ⟨List.mem_of_getElem? (i := 764) (by decide +kernel), rfl⟩
theorem q_765 : Cond.fieldLink RX7 28 "StringVotesModel" "vote" "[I" ∈ ALL := List.mem_filter.mpr ⟨List.mem_of_getElem? (i := 765) (by decide +kernel), rfl⟩
theorem q_766 : Cond.fieldLink RX7 31 "StringVotesModel" "gain" "[I" ∈ ALL := List.mem_filter.mpr ⟨List.mem_of_getElem? (i := 766) (by decide +kernel), rfl⟩
theorem q_767 : Cond.fieldLink RX7 163 "StringVotesModel" "spot" "I" ∈ ALL := List.mem_filter.mpr ⟨List.mem_of_getElem? (i := 767) (by decide +kernel), rfl⟩
theorem q_768 : Cond.fieldLink RX7 200 "StringVotesModel" "from" "I" ∈ ALL := List.mem_filter.mpr ⟨List.mem_of_getElem? (i := 768) (by decide +kernel), rfl⟩
theorem q_769 : Cond.fieldLink RX7 212 "StringVotesModel" "reason" "I" ∈ ALL := List.mem_filter.mpr ⟨List.mem_of_getElem? (i := 769) (by decide +kernel), rfl⟩
theorem q_770 : Cond.fieldLink RX7 215 "StringVotesModel" "cause" "I" ∈ ALL := List.mem_filter.mpr ⟨List.mem_of_getElem? (i := 770) (by decide +kernel), rfl⟩
theorem q_771 : Cond.fieldLink RX7 203 "StringVotesModel" "orders" "I" ∈ ALL := List.mem_filter.mpr ⟨List.mem_of_getElem? (i := 771) (by decide +kernel), rfl⟩
theorem q_772 : Cond.fieldLink RX7 169 "StringVotesModel" "order" "I" ∈ ALL := List.mem_filter.mpr ⟨List.mem_of_getElem? (i := 772) (by decide +kernel), rfl⟩
theorem q_773 : Cond.fieldLink RX7 34 "StringVotesModel" "numbers" "[I" ∈ ALL := List.mem_filter.mpr ⟨List.mem_of_getElem? (i := 773) (by decide +kernel), rfl⟩
theorem q_811 : Cond.methodLink RL 69 yX7_whyTie ∈ ALL := List.mem_filter.mpr ⟨List.mem_of_getElem? (i := 811) (by decide +kernel), rfl⟩
theorem q_812 : Cond.instanceMethod yX7_whyTie ∈ ALL := List.mem_filter.mpr ⟨List.mem_of_getElem? (i := 812) (by decide +kernel), rfl⟩
theorem q_813 : Cond.selects RX7 yX7_whyTie yX7_whyTie ∈ ALL := List.mem_filter.mpr ⟨List.mem_of_getElem? (i := 813) (by decide +kernel), rfl⟩
theorem q_814 : Cond.code yX7_whyTie cX7_whyTie 4 (some .int) ∈ ALL := List.mem_filter.mpr ⟨List.mem_of_getElem? (i := 814) (by decide +kernel), rfl⟩
theorem q_815 : Cond.methodLink RX7 88 yX7_isPair ∈ ALL := List.mem_filter.mpr ⟨List.mem_of_getElem? (i := 815) (by decide +kernel), rfl⟩
theorem q_817 : Cond.instanceMethod yX7_isPair ∈ ALL := List.mem_filter.mpr ⟨List.mem_of_getElem? (i := 817) (by decide +kernel), rfl⟩
theorem q_818 : Cond.code yX7_isPair cX7_isPair 3 (some .boolean) ∈ ALL := List.mem_filter.mpr ⟨List.mem_of_getElem? (i := 818) (by decide +kernel), rfl⟩
theorem q_819 : Cond.methodLink RX7 49 yX7_isPuppet ∈ ALL := List.mem_filter.mpr ⟨List.mem_of_getElem? (i := 819) (by decide +kernel), rfl⟩
theorem q_821 : Cond.instanceMethod yX7_isPuppet ∈ ALL := List.mem_filter.mpr ⟨List.mem_of_getElem? (i := 821) (by decide +kernel), rfl⟩
theorem q_822 : Cond.code yX7_isPuppet cX7_isPuppet 2 (some .boolean) ∈ ALL := List.mem_filter.mpr ⟨List.mem_of_getElem? (i := 822) (by decide +kernel), rfl⟩
theorem q_823 : Cond.methodLink RX7 45 yX7_in ∈ ALL := List.mem_filter.mpr ⟨List.mem_of_getElem? (i := 823) (by decide +kernel), rfl⟩
theorem q_824 : Cond.static yX7_in ∈ ALL := List.mem_filter.mpr ⟨List.mem_of_getElem? (i := 824) (by decide +kernel), rfl⟩
theorem q_825 : Cond.code yX7_in cX7_in 3 (some .boolean) ∈ ALL := List.mem_filter.mpr ⟨List.mem_of_getElem? (i := 825) (by decide +kernel), rfl⟩
theorem q_826 : Cond.methodLink RX7 92 yX7_refused ∈ ALL := List.mem_filter.mpr ⟨List.mem_of_getElem? (i := 826) (by decide +kernel), rfl⟩
theorem q_828 : Cond.instanceMethod yX7_refused ∈ ALL := List.mem_filter.mpr ⟨List.mem_of_getElem? (i := 828) (by decide +kernel), rfl⟩
theorem q_829 : Cond.code yX7_refused cX7_refused 6 (some .int) ∈ ALL := List.mem_filter.mpr ⟨List.mem_of_getElem? (i := 829) (by decide +kernel), rfl⟩
theorem q_830 : Cond.methodLink RX7 85 yX7_stringOfBoth ∈ ALL := List.mem_filter.mpr ⟨List.mem_of_getElem? (i := 830) (by decide +kernel), rfl⟩
theorem q_832 : Cond.instanceMethod yX7_stringOfBoth ∈ ALL := List.mem_filter.mpr ⟨List.mem_of_getElem? (i := 832) (by decide +kernel), rfl⟩
theorem q_833 : Cond.code yX7_stringOfBoth cX7_stringOfBoth 5 (some .int) ∈ ALL := List.mem_filter.mpr ⟨List.mem_of_getElem? (i := 833) (by decide +kernel), rfl⟩
theorem q_834 : Cond.methodLink RX7 53 yX7_tied ∈ ALL := List.mem_filter.mpr ⟨List.mem_of_getElem? (i := 834) (by decide +kernel), rfl⟩
theorem q_836 : Cond.instanceMethod yX7_tied ∈ ALL := List.mem_filter.mpr ⟨List.mem_of_getElem? (i := 836) (by decide +kernel), rfl⟩
theorem q_837 : Cond.code yX7_tied cX7_tied 3 (some .int) ∈ ALL := List.mem_filter.mpr ⟨List.mem_of_getElem? (i := 837) (by decide +kernel), rfl⟩
theorem q_838 : Cond.constant RX7 60 (-1000004) ∈ ALL := List.mem_filter.mpr ⟨List.mem_of_getElem? (i := 838) (by decide +kernel), rfl⟩
theorem q_839 : Cond.methodLink RX7 71 yX7_looks ∈ ALL := List.mem_filter.mpr ⟨List.mem_of_getElem? (i := 839) (by decide +kernel), rfl⟩
theorem q_841 : Cond.instanceMethod yX7_looks ∈ ALL := List.mem_filter.mpr ⟨List.mem_of_getElem? (i := 841) (by decide +kernel), rfl⟩
theorem q_842 : Cond.code yX7_looks cX7_looks 4 none ∈ ALL := List.mem_filter.mpr ⟨List.mem_of_getElem? (i := 842) (by decide +kernel), rfl⟩
theorem q_843 : Cond.methodLink RX7 57 yX7_isJoined ∈ ALL := List.mem_filter.mpr ⟨List.mem_of_getElem? (i := 843) (by decide +kernel), rfl⟩
theorem q_845 : Cond.instanceMethod yX7_isJoined ∈ ALL := List.mem_filter.mpr ⟨List.mem_of_getElem? (i := 845) (by decide +kernel), rfl⟩
theorem q_846 : Cond.code yX7_isJoined cX7_isJoined 6 (some .boolean) ∈ ALL := List.mem_filter.mpr ⟨List.mem_of_getElem? (i := 846) (by decide +kernel), rfl⟩
theorem q_847 : Cond.methodLink RX7 64 yX7_pulled ∈ ALL := List.mem_filter.mpr ⟨List.mem_of_getElem? (i := 847) (by decide +kernel), rfl⟩
theorem q_849 : Cond.instanceMethod yX7_pulled ∈ ALL := List.mem_filter.mpr ⟨List.mem_of_getElem? (i := 849) (by decide +kernel), rfl⟩
theorem q_850 : Cond.code yX7_pulled cX7_pulled 5 (some .int) ∈ ALL := List.mem_filter.mpr ⟨List.mem_of_getElem? (i := 850) (by decide +kernel), rfl⟩
theorem q_851 : Cond.methodLink RX7 61 yX7_of ∈ ALL := List.mem_filter.mpr ⟨List.mem_of_getElem? (i := 851) (by decide +kernel), rfl⟩
theorem q_853 : Cond.instanceMethod yX7_of ∈ ALL := List.mem_filter.mpr ⟨List.mem_of_getElem? (i := 853) (by decide +kernel), rfl⟩
theorem q_854 : Cond.code yX7_of cX7_of 3 (some .int) ∈ ALL := List.mem_filter.mpr ⟨List.mem_of_getElem? (i := 854) (by decide +kernel), rfl⟩
theorem q_855 : Cond.constant RX7 96 (-1000001) ∈ ALL := List.mem_filter.mpr ⟨List.mem_of_getElem? (i := 855) (by decide +kernel), rfl⟩
theorem q_856 : Cond.methodLink RL 17 yX7_puppet ∈ ALL := List.mem_filter.mpr ⟨List.mem_of_getElem? (i := 856) (by decide +kernel), rfl⟩
theorem q_857 : Cond.instanceMethod yX7_puppet ∈ ALL := List.mem_filter.mpr ⟨List.mem_of_getElem? (i := 857) (by decide +kernel), rfl⟩
theorem q_858 : Cond.selects RX7 yX7_puppet yX7_puppet ∈ ALL := List.mem_filter.mpr ⟨List.mem_of_getElem? (i := 858) (by decide +kernel), rfl⟩
theorem q_859 : Cond.code yX7_puppet cX7_puppet 4 (some .int) ∈ ALL := List.mem_filter.mpr ⟨List.mem_of_getElem? (i := 859) (by decide +kernel), rfl⟩
theorem q_860 : Cond.constant RX7 97 (-1000003) ∈ ALL := List.mem_filter.mpr ⟨List.mem_of_getElem? (i := 860) (by decide +kernel), rfl⟩
theorem q_861 : Cond.methodLink RX7 98 yX7_changes ∈ ALL := List.mem_filter.mpr ⟨List.mem_of_getElem? (i := 861) (by decide +kernel), rfl⟩
theorem q_863 : Cond.instanceMethod yX7_changes ∈ ALL := List.mem_filter.mpr ⟨List.mem_of_getElem? (i := 863) (by decide +kernel), rfl⟩
theorem q_864 : Cond.code yX7_changes cX7_changes 2 none ∈ ALL := List.mem_filter.mpr ⟨List.mem_of_getElem? (i := 864) (by decide +kernel), rfl⟩
theorem q_865 : Cond.methodLink RL 22 yX7_tie ∈ ALL := List.mem_filter.mpr ⟨List.mem_of_getElem? (i := 865) (by decide +kernel), rfl⟩
theorem q_866 : Cond.instanceMethod yX7_tie ∈ ALL := List.mem_filter.mpr ⟨List.mem_of_getElem? (i := 866) (by decide +kernel), rfl⟩
theorem q_867 : Cond.selects RX7 yX7_tie yX7_tie ∈ ALL := List.mem_filter.mpr ⟨List.mem_of_getElem? (i := 867) (by decide +kernel), rfl⟩
theorem q_868 : Cond.code yX7_tie cX7_tie 6 (some .int) ∈ ALL := List.mem_filter.mpr ⟨List.mem_of_getElem? (i := 868) (by decide +kernel), rfl⟩
theorem q_869 : Cond.constant RX7 101 (-1000002) ∈ ALL := List.mem_filter.mpr ⟨List.mem_of_getElem? (i := 869) (by decide +kernel), rfl⟩
theorem q_870 : Cond.methodLink RL 27 yX7_cut ∈ ALL := List.mem_filter.mpr ⟨List.mem_of_getElem? (i := 870) (by decide +kernel), rfl⟩
theorem q_871 : Cond.instanceMethod yX7_cut ∈ ALL := List.mem_filter.mpr ⟨List.mem_of_getElem? (i := 871) (by decide +kernel), rfl⟩
theorem q_872 : Cond.selects RX7 yX7_cut yX7_cut ∈ ALL := List.mem_filter.mpr ⟨List.mem_of_getElem? (i := 872) (by decide +kernel), rfl⟩
theorem q_873 : Cond.code yX7_cut cX7_cut 2 (some .int) ∈ ALL := List.mem_filter.mpr ⟨List.mem_of_getElem? (i := 873) (by decide +kernel), rfl⟩
theorem q_874 : Cond.methodLink RX7 102 yX7_isString ∈ ALL := List.mem_filter.mpr ⟨List.mem_of_getElem? (i := 874) (by decide +kernel), rfl⟩
theorem q_876 : Cond.instanceMethod yX7_isString ∈ ALL := List.mem_filter.mpr ⟨List.mem_of_getElem? (i := 876) (by decide +kernel), rfl⟩
theorem q_877 : Cond.code yX7_isString cX7_isString 2 (some .boolean) ∈ ALL := List.mem_filter.mpr ⟨List.mem_of_getElem? (i := 877) (by decide +kernel), rfl⟩
theorem q_878 : Cond.methodLink RX7 105 yX7_cuts ∈ ALL := List.mem_filter.mpr ⟨List.mem_of_getElem? (i := 878) (by decide +kernel), rfl⟩
theorem q_880 : Cond.instanceMethod yX7_cuts ∈ ALL := List.mem_filter.mpr ⟨List.mem_of_getElem? (i := 880) (by decide +kernel), rfl⟩
theorem q_881 : Cond.code yX7_cuts cX7_cuts 3 none ∈ ALL := List.mem_filter.mpr ⟨List.mem_of_getElem? (i := 881) (by decide +kernel), rfl⟩
theorem q_882 : Cond.methodLink RL 31 yX7_cutDeal ∈ ALL := List.mem_filter.mpr ⟨List.mem_of_getElem? (i := 882) (by decide +kernel), rfl⟩
theorem q_883 : Cond.instanceMethod yX7_cutDeal ∈ ALL := List.mem_filter.mpr ⟨List.mem_of_getElem? (i := 883) (by decide +kernel), rfl⟩
theorem q_884 : Cond.selects RX7 yX7_cutDeal yX7_cutDeal ∈ ALL := List.mem_filter.mpr ⟨List.mem_of_getElem? (i := 884) (by decide +kernel), rfl⟩
theorem q_885 : Cond.code yX7_cutDeal cX7_cutDeal 4 (some .int) ∈ ALL := List.mem_filter.mpr ⟨List.mem_of_getElem? (i := 885) (by decide +kernel), rfl⟩
theorem q_886 : Cond.methodLink RX7 108 yX7_ofDeal ∈ ALL := List.mem_filter.mpr ⟨List.mem_of_getElem? (i := 886) (by decide +kernel), rfl⟩
theorem q_888 : Cond.instanceMethod yX7_ofDeal ∈ ALL := List.mem_filter.mpr ⟨List.mem_of_getElem? (i := 888) (by decide +kernel), rfl⟩
theorem q_889 : Cond.code yX7_ofDeal cX7_ofDeal 4 (some .int) ∈ ALL := List.mem_filter.mpr ⟨List.mem_of_getElem? (i := 889) (by decide +kernel), rfl⟩
theorem q_890 : Cond.methodLink RL 73 yX7_whyPull ∈ ALL := List.mem_filter.mpr ⟨List.mem_of_getElem? (i := 890) (by decide +kernel), rfl⟩
theorem q_891 : Cond.instanceMethod yX7_whyPull ∈ ALL := List.mem_filter.mpr ⟨List.mem_of_getElem? (i := 891) (by decide +kernel), rfl⟩
theorem q_892 : Cond.selects RX7 yX7_whyPull yX7_whyPull ∈ ALL := List.mem_filter.mpr ⟨List.mem_of_getElem? (i := 892) (by decide +kernel), rfl⟩
theorem q_893 : Cond.code yX7_whyPull cX7_whyPull 3 (some .int) ∈ ALL := List.mem_filter.mpr ⟨List.mem_of_getElem? (i := 893) (by decide +kernel), rfl⟩
theorem q_894 : Cond.methodLink RX7 114 yX7_barred ∈ ALL := List.mem_filter.mpr ⟨List.mem_of_getElem? (i := 894) (by decide +kernel), rfl⟩
theorem q_896 : Cond.instanceMethod yX7_barred ∈ ALL := List.mem_filter.mpr ⟨List.mem_of_getElem? (i := 896) (by decide +kernel), rfl⟩
theorem q_897 : Cond.code yX7_barred cX7_barred 4 (some .int) ∈ ALL := List.mem_filter.mpr ⟨List.mem_of_getElem? (i := 897) (by decide +kernel), rfl⟩
theorem q_898 : Cond.methodLink RX7 111 yX7_manyPulled ∈ ALL := List.mem_filter.mpr ⟨List.mem_of_getElem? (i := 898) (by decide +kernel), rfl⟩
theorem q_900 : Cond.instanceMethod yX7_manyPulled ∈ ALL := List.mem_filter.mpr ⟨List.mem_of_getElem? (i := 900) (by decide +kernel), rfl⟩
theorem q_901 : Cond.code yX7_manyPulled cX7_manyPulled 4 (some .int) ∈ ALL := List.mem_filter.mpr ⟨List.mem_of_getElem? (i := 901) (by decide +kernel), rfl⟩
theorem q_902 : Cond.methodLink RL 35 yX7_pull ∈ ALL := List.mem_filter.mpr ⟨List.mem_of_getElem? (i := 902) (by decide +kernel), rfl⟩
theorem q_903 : Cond.instanceMethod yX7_pull ∈ ALL := List.mem_filter.mpr ⟨List.mem_of_getElem? (i := 903) (by decide +kernel), rfl⟩
theorem q_904 : Cond.selects RX7 yX7_pull yX7_pull ∈ ALL := List.mem_filter.mpr ⟨List.mem_of_getElem? (i := 904) (by decide +kernel), rfl⟩
theorem q_905 : Cond.code yX7_pull cX7_pull 3 (some .int) ∈ ALL := List.mem_filter.mpr ⟨List.mem_of_getElem? (i := 905) (by decide +kernel), rfl⟩
theorem q_906 : Cond.methodLink RX7 79 yX7_yesNow ∈ ALL := List.mem_filter.mpr ⟨List.mem_of_getElem? (i := 906) (by decide +kernel), rfl⟩
theorem q_908 : Cond.instanceMethod yX7_yesNow ∈ ALL := List.mem_filter.mpr ⟨List.mem_of_getElem? (i := 908) (by decide +kernel), rfl⟩
theorem q_909 : Cond.code yX7_yesNow cX7_yesNow 1 (some .int) ∈ ALL := List.mem_filter.mpr ⟨List.mem_of_getElem? (i := 909) (by decide +kernel), rfl⟩
theorem q_910 : Cond.methodLink RX7 75 yX7_votes ∈ ALL := List.mem_filter.mpr ⟨List.mem_of_getElem? (i := 910) (by decide +kernel), rfl⟩
theorem q_912 : Cond.instanceMethod yX7_votes ∈ ALL := List.mem_filter.mpr ⟨List.mem_of_getElem? (i := 912) (by decide +kernel), rfl⟩
theorem q_913 : Cond.code yX7_votes cX7_votes 4 (some .int) ∈ ALL := List.mem_filter.mpr ⟨List.mem_of_getElem? (i := 913) (by decide +kernel), rfl⟩
theorem q_914 : Cond.methodLink RX7 67 yX7_byLeanings ∈ ALL := List.mem_filter.mpr ⟨List.mem_of_getElem? (i := 914) (by decide +kernel), rfl⟩
theorem q_916 : Cond.instanceMethod yX7_byLeanings ∈ ALL := List.mem_filter.mpr ⟨List.mem_of_getElem? (i := 916) (by decide +kernel), rfl⟩
theorem q_917 : Cond.code yX7_byLeanings cX7_byLeanings 6 (some .int) ∈ ALL := List.mem_filter.mpr ⟨List.mem_of_getElem? (i := 917) (by decide +kernel), rfl⟩
theorem q_918 : Cond.methodLink RL 39 yX7_release ∈ ALL := List.mem_filter.mpr ⟨List.mem_of_getElem? (i := 918) (by decide +kernel), rfl⟩
theorem q_919 : Cond.instanceMethod yX7_release ∈ ALL := List.mem_filter.mpr ⟨List.mem_of_getElem? (i := 919) (by decide +kernel), rfl⟩
theorem q_920 : Cond.selects RX7 yX7_release yX7_release ∈ ALL := List.mem_filter.mpr ⟨List.mem_of_getElem? (i := 920) (by decide +kernel), rfl⟩
theorem q_921 : Cond.code yX7_release cX7_release 3 (some .int) ∈ ALL := List.mem_filter.mpr ⟨List.mem_of_getElem? (i := 921) (by decide +kernel), rfl⟩
theorem q_922 : Cond.methodLink RL 44 yX7_session ∈ ALL := List.mem_filter.mpr ⟨List.mem_of_getElem? (i := 922) (by decide +kernel), rfl⟩
theorem q_923 : Cond.instanceMethod yX7_session ∈ ALL := List.mem_filter.mpr ⟨List.mem_of_getElem? (i := 923) (by decide +kernel), rfl⟩
theorem q_924 : Cond.selects RX7 yX7_session yX7_session ∈ ALL := List.mem_filter.mpr ⟨List.mem_of_getElem? (i := 924) (by decide +kernel), rfl⟩
theorem q_925 : Cond.code yX7_session cX7_session 4 (some .int) ∈ ALL := List.mem_filter.mpr ⟨List.mem_of_getElem? (i := 925) (by decide +kernel), rfl⟩
theorem q_926 : Cond.methodLink RX7 117 yX7_isPassed ∈ ALL := List.mem_filter.mpr ⟨List.mem_of_getElem? (i := 926) (by decide +kernel), rfl⟩
theorem q_928 : Cond.instanceMethod yX7_isPassed ∈ ALL := List.mem_filter.mpr ⟨List.mem_of_getElem? (i := 928) (by decide +kernel), rfl⟩
theorem q_929 : Cond.code yX7_isPassed cX7_isPassed 3 (some .boolean) ∈ ALL := List.mem_filter.mpr ⟨List.mem_of_getElem? (i := 929) (by decide +kernel), rfl⟩
theorem q_930 : Cond.methodLink RX7 82 yX7_seats ∈ ALL := List.mem_filter.mpr ⟨List.mem_of_getElem? (i := 930) (by decide +kernel), rfl⟩
theorem q_932 : Cond.instanceMethod yX7_seats ∈ ALL := List.mem_filter.mpr ⟨List.mem_of_getElem? (i := 932) (by decide +kernel), rfl⟩
theorem q_933 : Cond.code yX7_seats cX7_seats 3 (some .int) ∈ ALL := List.mem_filter.mpr ⟨List.mem_of_getElem? (i := 933) (by decide +kernel), rfl⟩
theorem q_934 : Cond.methodLink RL 48 yX7_set ∈ ALL := List.mem_filter.mpr ⟨List.mem_of_getElem? (i := 934) (by decide +kernel), rfl⟩
theorem q_935 : Cond.instanceMethod yX7_set ∈ ALL := List.mem_filter.mpr ⟨List.mem_of_getElem? (i := 935) (by decide +kernel), rfl⟩
theorem q_936 : Cond.selects RX7 yX7_set yX7_set ∈ ALL := List.mem_filter.mpr ⟨List.mem_of_getElem? (i := 936) (by decide +kernel), rfl⟩
theorem q_937 : Cond.code yX7_set cX7_set 4 (some .int) ∈ ALL := List.mem_filter.mpr ⟨List.mem_of_getElem? (i := 937) (by decide +kernel), rfl⟩
theorem q_938 : Cond.methodLink RL 52 yX7_puppetOf ∈ ALL := List.mem_filter.mpr ⟨List.mem_of_getElem? (i := 938) (by decide +kernel), rfl⟩
theorem q_939 : Cond.instanceMethod yX7_puppetOf ∈ ALL := List.mem_filter.mpr ⟨List.mem_of_getElem? (i := 939) (by decide +kernel), rfl⟩
theorem q_940 : Cond.selects RX7 yX7_puppetOf yX7_puppetOf ∈ ALL := List.mem_filter.mpr ⟨List.mem_of_getElem? (i := 940) (by decide +kernel), rfl⟩
theorem q_941 : Cond.code yX7_puppetOf cX7_puppetOf 3 (some .int) ∈ ALL := List.mem_filter.mpr ⟨List.mem_of_getElem? (i := 941) (by decide +kernel), rfl⟩
theorem q_942 : Cond.methodLink RX7 121 yX7_tiesOf ∈ ALL := List.mem_filter.mpr ⟨List.mem_of_getElem? (i := 942) (by decide +kernel), rfl⟩
theorem q_944 : Cond.instanceMethod yX7_tiesOf ∈ ALL := List.mem_filter.mpr ⟨List.mem_of_getElem? (i := 944) (by decide +kernel), rfl⟩
theorem q_945 : Cond.code yX7_tiesOf cX7_tiesOf 4 (some .int) ∈ ALL := List.mem_filter.mpr ⟨List.mem_of_getElem? (i := 945) (by decide +kernel), rfl⟩
theorem q_946 : Cond.methodLink RX7 124 yX7_groupOf ∈ ALL := List.mem_filter.mpr ⟨List.mem_of_getElem? (i := 946) (by decide +kernel), rfl⟩
theorem q_948 : Cond.instanceMethod yX7_groupOf ∈ ALL := List.mem_filter.mpr ⟨List.mem_of_getElem? (i := 948) (by decide +kernel), rfl⟩
theorem q_949 : Cond.code yX7_groupOf cX7_groupOf 4 (some .int) ∈ ALL := List.mem_filter.mpr ⟨List.mem_of_getElem? (i := 949) (by decide +kernel), rfl⟩
theorem q_950 : Cond.methodLink RX7 127 yX7_groupSeats ∈ ALL := List.mem_filter.mpr ⟨List.mem_of_getElem? (i := 950) (by decide +kernel), rfl⟩
theorem q_952 : Cond.instanceMethod yX7_groupSeats ∈ ALL := List.mem_filter.mpr ⟨List.mem_of_getElem? (i := 952) (by decide +kernel), rfl⟩
theorem q_953 : Cond.code yX7_groupSeats cX7_groupSeats 4 (some .int) ∈ ALL := List.mem_filter.mpr ⟨List.mem_of_getElem? (i := 953) (by decide +kernel), rfl⟩
theorem q_954 : Cond.methodLink RL 56 yX7_stringOf ∈ ALL := List.mem_filter.mpr ⟨List.mem_of_getElem? (i := 954) (by decide +kernel), rfl⟩
theorem q_955 : Cond.instanceMethod yX7_stringOf ∈ ALL := List.mem_filter.mpr ⟨List.mem_of_getElem? (i := 955) (by decide +kernel), rfl⟩
theorem q_956 : Cond.selects RX7 yX7_stringOf yX7_stringOf ∈ ALL := List.mem_filter.mpr ⟨List.mem_of_getElem? (i := 956) (by decide +kernel), rfl⟩
theorem q_957 : Cond.code yX7_stringOf cX7_stringOf 3 (some .int) ∈ ALL := List.mem_filter.mpr ⟨List.mem_of_getElem? (i := 957) (by decide +kernel), rfl⟩
theorem q_958 : Cond.methodLink RL 60 yX7_between ∈ ALL := List.mem_filter.mpr ⟨List.mem_of_getElem? (i := 958) (by decide +kernel), rfl⟩
theorem q_959 : Cond.instanceMethod yX7_between ∈ ALL := List.mem_filter.mpr ⟨List.mem_of_getElem? (i := 959) (by decide +kernel), rfl⟩
theorem q_960 : Cond.selects RX7 yX7_between yX7_between ∈ ALL := List.mem_filter.mpr ⟨List.mem_of_getElem? (i := 960) (by decide +kernel), rfl⟩
theorem q_961 : Cond.code yX7_between cX7_between 6 (some .int) ∈ ALL := List.mem_filter.mpr ⟨List.mem_of_getElem? (i := 961) (by decide +kernel), rfl⟩
theorem q_962 : Cond.methodLink RX7 130 yX7_reached ∈ ALL := List.mem_filter.mpr ⟨List.mem_of_getElem? (i := 962) (by decide +kernel), rfl⟩
theorem q_964 : Cond.instanceMethod yX7_reached ∈ ALL := List.mem_filter.mpr ⟨List.mem_of_getElem? (i := 964) (by decide +kernel), rfl⟩
theorem q_965 : Cond.code yX7_reached cX7_reached 5 (some .int) ∈ ALL := List.mem_filter.mpr ⟨List.mem_of_getElem? (i := 965) (by decide +kernel), rfl⟩
theorem q_966 : Cond.methodLink RL 64 yX7_book ∈ ALL := List.mem_filter.mpr ⟨List.mem_of_getElem? (i := 966) (by decide +kernel), rfl⟩
theorem q_967 : Cond.instanceMethod yX7_book ∈ ALL := List.mem_filter.mpr ⟨List.mem_of_getElem? (i := 967) (by decide +kernel), rfl⟩
theorem q_968 : Cond.selects RX7 yX7_book yX7_book ∈ ALL := List.mem_filter.mpr ⟨List.mem_of_getElem? (i := 968) (by decide +kernel), rfl⟩
theorem q_969 : Cond.code yX7_book cX7_book 3 (some .int) ∈ ALL := List.mem_filter.mpr ⟨List.mem_of_getElem? (i := 969) (by decide +kernel), rfl⟩
theorem q_970 : Cond.methodLink RL 77 yX7_bestPull ∈ ALL := List.mem_filter.mpr ⟨List.mem_of_getElem? (i := 970) (by decide +kernel), rfl⟩
theorem q_971 : Cond.instanceMethod yX7_bestPull ∈ ALL := List.mem_filter.mpr ⟨List.mem_of_getElem? (i := 971) (by decide +kernel), rfl⟩
theorem q_972 : Cond.selects RX7 yX7_bestPull yX7_bestPull ∈ ALL := List.mem_filter.mpr ⟨List.mem_of_getElem? (i := 972) (by decide +kernel), rfl⟩
theorem q_973 : Cond.code yX7_bestPull cX7_bestPull 6 (some .int) ∈ ALL := List.mem_filter.mpr ⟨List.mem_of_getElem? (i := 973) (by decide +kernel), rfl⟩
theorem q_974 : Cond.methodLink RX7 133 yX7_yesWith ∈ ALL := List.mem_filter.mpr ⟨List.mem_of_getElem? (i := 974) (by decide +kernel), rfl⟩
theorem q_976 : Cond.instanceMethod yX7_yesWith ∈ ALL := List.mem_filter.mpr ⟨List.mem_of_getElem? (i := 976) (by decide +kernel), rfl⟩
theorem q_977 : Cond.code yX7_yesWith cX7_yesWith 5 (some .int) ∈ ALL := List.mem_filter.mpr ⟨List.mem_of_getElem? (i := 977) (by decide +kernel), rfl⟩
theorem q_978 : Cond.methodLink RL 81 yX7_fewest ∈ ALL := List.mem_filter.mpr ⟨List.mem_of_getElem? (i := 978) (by decide +kernel), rfl⟩
theorem q_979 : Cond.instanceMethod yX7_fewest ∈ ALL := List.mem_filter.mpr ⟨List.mem_of_getElem? (i := 979) (by decide +kernel), rfl⟩
theorem q_980 : Cond.selects RX7 yX7_fewest yX7_fewest ∈ ALL := List.mem_filter.mpr ⟨List.mem_of_getElem? (i := 980) (by decide +kernel), rfl⟩
theorem q_981 : Cond.code yX7_fewest cX7_fewest 5 (some .int) ∈ ALL := List.mem_filter.mpr ⟨List.mem_of_getElem? (i := 981) (by decide +kernel), rfl⟩
theorem q_982 : Cond.methodLink RX7 136 yX7_gains ∈ ALL := List.mem_filter.mpr ⟨List.mem_of_getElem? (i := 982) (by decide +kernel), rfl⟩
theorem q_984 : Cond.instanceMethod yX7_gains ∈ ALL := List.mem_filter.mpr ⟨List.mem_of_getElem? (i := 984) (by decide +kernel), rfl⟩
theorem q_985 : Cond.code yX7_gains cX7_gains 5 (some .int) ∈ ALL := List.mem_filter.mpr ⟨List.mem_of_getElem? (i := 985) (by decide +kernel), rfl⟩
theorem q_986 : Cond.methodLink RX7 139 yX7_greedy ∈ ALL := List.mem_filter.mpr ⟨List.mem_of_getElem? (i := 986) (by decide +kernel), rfl⟩
theorem q_988 : Cond.instanceMethod yX7_greedy ∈ ALL := List.mem_filter.mpr ⟨List.mem_of_getElem? (i := 988) (by decide +kernel), rfl⟩
theorem q_989 : Cond.code yX7_greedy cX7_greedy 8 (some .int) ∈ ALL := List.mem_filter.mpr ⟨List.mem_of_getElem? (i := 989) (by decide +kernel), rfl⟩
theorem q_990 : Cond.methodLink RX7 142 yX7_bySets ∈ ALL := List.mem_filter.mpr ⟨List.mem_of_getElem? (i := 990) (by decide +kernel), rfl⟩
theorem q_992 : Cond.instanceMethod yX7_bySets ∈ ALL := List.mem_filter.mpr ⟨List.mem_of_getElem? (i := 992) (by decide +kernel), rfl⟩
theorem q_993 : Cond.code yX7_bySets cX7_bySets 8 (some .int) ∈ ALL := List.mem_filter.mpr ⟨List.mem_of_getElem? (i := 993) (by decide +kernel), rfl⟩
theorem q_994 : Cond.methodLink RL 85 yX7_ifCut ∈ ALL := List.mem_filter.mpr ⟨List.mem_of_getElem? (i := 994) (by decide +kernel), rfl⟩
theorem q_995 : Cond.instanceMethod yX7_ifCut ∈ ALL := List.mem_filter.mpr ⟨List.mem_of_getElem? (i := 995) (by decide +kernel), rfl⟩
theorem q_996 : Cond.selects RX7 yX7_ifCut yX7_ifCut ∈ ALL := List.mem_filter.mpr ⟨List.mem_of_getElem? (i := 996) (by decide +kernel), rfl⟩
theorem q_997 : Cond.code yX7_ifCut cX7_ifCut 3 (some .int) ∈ ALL := List.mem_filter.mpr ⟨List.mem_of_getElem? (i := 997) (by decide +kernel), rfl⟩
theorem q_998 : Cond.methodLink RX7 145 yX7_groups ∈ ALL := List.mem_filter.mpr ⟨List.mem_of_getElem? (i := 998) (by decide +kernel), rfl⟩
theorem q_1000 : Cond.instanceMethod yX7_groups ∈ ALL := List.mem_filter.mpr ⟨List.mem_of_getElem? (i := 1000) (by decide +kernel), rfl⟩
theorem q_1001 : Cond.code yX7_groups cX7_groups 3 (some .int) ∈ ALL := List.mem_filter.mpr ⟨List.mem_of_getElem? (i := 1001) (by decide +kernel), rfl⟩
theorem q_1002 : Cond.methodLink RL 89 yX7_share ∈ ALL := List.mem_filter.mpr ⟨List.mem_of_getElem? (i := 1002) (by decide +kernel), rfl⟩
theorem q_1003 : Cond.instanceMethod yX7_share ∈ ALL := List.mem_filter.mpr ⟨List.mem_of_getElem? (i := 1003) (by decide +kernel), rfl⟩
theorem q_1004 : Cond.selects RX7 yX7_share yX7_share ∈ ALL := List.mem_filter.mpr ⟨List.mem_of_getElem? (i := 1004) (by decide +kernel), rfl⟩
theorem q_1005 : Cond.code yX7_share cX7_share 3 (some .int) ∈ ALL := List.mem_filter.mpr ⟨List.mem_of_getElem? (i := 1005) (by decide +kernel), rfl⟩
theorem q_1006 : Cond.methodLink RX7 148 yJxf58ca_floatToIntBits_5c35a ∈ ALL := List.mem_filter.mpr ⟨List.mem_of_getElem? (i := 1006) (by decide +kernel), rfl⟩
theorem q_1007 : Cond.static yJxf58ca_floatToIntBits_5c35a ∈ ALL := List.mem_filter.mpr ⟨List.mem_of_getElem? (i := 1007) (by decide +kernel), rfl⟩
theorem q_1008 : Cond.code yJxf58ca_floatToIntBits_5c35a cJxf58ca_floatToIntBits_5c35a 1 (some .int) ∈ ALL := List.mem_filter.mpr ⟨List.mem_of_getElem? (i := 1008) (by decide +kernel), rfl⟩
theorem q_1009 : Cond.methodLink RJxf58ca 59 yJxf58ca_isNaN_12338 ∈ ALL := List.mem_filter.mpr ⟨List.mem_of_getElem? (i := 1009) (by decide +kernel), rfl⟩
theorem q_1010 : Cond.static yJxf58ca_isNaN_12338 ∈ ALL := List.mem_filter.mpr ⟨List.mem_of_getElem? (i := 1010) (by decide +kernel), rfl⟩
theorem q_1011 : Cond.code yJxf58ca_isNaN_12338 cJxf58ca_isNaN_12338 1 (some .boolean) ∈ ALL := List.mem_filter.mpr ⟨List.mem_of_getElem? (i := 1011) (by decide +kernel), rfl⟩
theorem q_1012 : Cond.methodLink RJxf58ca 74 ⟨"java/lang/Float", "floatToRawIntBits", "(F)I"⟩ ∈ ALL := List.mem_filter.mpr ⟨List.mem_of_getElem? (i := 1012) (by decide +kernel), rfl⟩
theorem q_1013 : Cond.static ⟨"java/lang/Float", "floatToRawIntBits", "(F)I"⟩ ∈ ALL := List.mem_filter.mpr ⟨List.mem_of_getElem? (i := 1013) (by decide +kernel), rfl⟩
theorem q_1014 : Cond.native ⟨"java/lang/Float", "floatToRawIntBits", "(F)I"⟩ ∈ ALL := List.mem_filter.mpr ⟨List.mem_of_getElem? (i := 1014) (by decide +kernel), rfl⟩
theorem q_1015 : Cond.constant RJxf58ca 77 (2143289344) ∈ ALL := List.mem_filter.mpr ⟨List.mem_of_getElem? (i := 1015) (by decide +kernel), rfl⟩
theorem q_1016 : Cond.methodLink RL 93 yX7_count ∈ ALL := List.mem_filter.mpr ⟨List.mem_of_getElem? (i := 1016) (by decide +kernel), rfl⟩
theorem q_1017 : Cond.instanceMethod yX7_count ∈ ALL := List.mem_filter.mpr ⟨List.mem_of_getElem? (i := 1017) (by decide +kernel), rfl⟩
theorem q_1018 : Cond.selects RX7 yX7_count yX7_count ∈ ALL := List.mem_filter.mpr ⟨List.mem_of_getElem? (i := 1018) (by decide +kernel), rfl⟩
theorem q_1019 : Cond.code yX7_count cX7_count 3 (some .int) ∈ ALL := List.mem_filter.mpr ⟨List.mem_of_getElem? (i := 1019) (by decide +kernel), rfl⟩
theorem q_1020 : Cond.methodLink RX7 154 yX7_walked ∈ ALL := List.mem_filter.mpr ⟨List.mem_of_getElem? (i := 1020) (by decide +kernel), rfl⟩
theorem q_1022 : Cond.instanceMethod yX7_walked ∈ ALL := List.mem_filter.mpr ⟨List.mem_of_getElem? (i := 1022) (by decide +kernel), rfl⟩
theorem q_1023 : Cond.code yX7_walked cX7_walked 6 (some .int) ∈ ALL := List.mem_filter.mpr ⟨List.mem_of_getElem? (i := 1023) (by decide +kernel), rfl⟩
theorem q_1024 : Cond.methodLink RX7 157 yX7_pulledSet ∈ ALL := List.mem_filter.mpr ⟨List.mem_of_getElem? (i := 1024) (by decide +kernel), rfl⟩
theorem q_1026 : Cond.instanceMethod yX7_pulledSet ∈ ALL := List.mem_filter.mpr ⟨List.mem_of_getElem? (i := 1026) (by decide +kernel), rfl⟩
theorem q_1027 : Cond.code yX7_pulledSet cX7_pulledSet 3 (some .int) ∈ ALL := List.mem_filter.mpr ⟨List.mem_of_getElem? (i := 1027) (by decide +kernel), rfl⟩
theorem q_1028 : Cond.methodLink RL 97 yX7_undo ∈ ALL := List.mem_filter.mpr ⟨List.mem_of_getElem? (i := 1028) (by decide +kernel), rfl⟩
theorem q_1029 : Cond.instanceMethod yX7_undo ∈ ALL := List.mem_filter.mpr ⟨List.mem_of_getElem? (i := 1029) (by decide +kernel), rfl⟩
theorem q_1030 : Cond.selects RX7 yX7_undo yX7_undo ∈ ALL := List.mem_filter.mpr ⟨List.mem_of_getElem? (i := 1030) (by decide +kernel), rfl⟩
theorem q_1031 : Cond.code yX7_undo cX7_undo 2 (some .int) ∈ ALL := List.mem_filter.mpr ⟨List.mem_of_getElem? (i := 1031) (by decide +kernel), rfl⟩
theorem q_1032 : Cond.methodLink RL 101 yX7_type ∈ ALL := List.mem_filter.mpr ⟨List.mem_of_getElem? (i := 1032) (by decide +kernel), rfl⟩
theorem q_1033 : Cond.instanceMethod yX7_type ∈ ALL := List.mem_filter.mpr ⟨List.mem_of_getElem? (i := 1033) (by decide +kernel), rfl⟩
theorem q_1034 : Cond.selects RX7 yX7_type yX7_type ∈ ALL := List.mem_filter.mpr ⟨List.mem_of_getElem? (i := 1034) (by decide +kernel), rfl⟩
theorem q_1035 : Cond.code yX7_type cX7_type 2 (some .int) ∈ ALL := List.mem_filter.mpr ⟨List.mem_of_getElem? (i := 1035) (by decide +kernel), rfl⟩
theorem q_1036 : Cond.methodLink RL 105 yX7_clearText ∈ ALL := List.mem_filter.mpr ⟨List.mem_of_getElem? (i := 1036) (by decide +kernel), rfl⟩
theorem q_1037 : Cond.instanceMethod yX7_clearText ∈ ALL := List.mem_filter.mpr ⟨List.mem_of_getElem? (i := 1037) (by decide +kernel), rfl⟩
theorem q_1038 : Cond.selects RX7 yX7_clearText yX7_clearText ∈ ALL := List.mem_filter.mpr ⟨List.mem_of_getElem? (i := 1038) (by decide +kernel), rfl⟩
theorem q_1039 : Cond.code yX7_clearText cX7_clearText 2 (some .int) ∈ ALL := List.mem_filter.mpr ⟨List.mem_of_getElem? (i := 1039) (by decide +kernel), rfl⟩
theorem q_1040 : Cond.methodLink RL 109 yX7_fault ∈ ALL := List.mem_filter.mpr ⟨List.mem_of_getElem? (i := 1040) (by decide +kernel), rfl⟩
theorem q_1041 : Cond.instanceMethod yX7_fault ∈ ALL := List.mem_filter.mpr ⟨List.mem_of_getElem? (i := 1041) (by decide +kernel), rfl⟩
theorem q_1042 : Cond.selects RX7 yX7_fault yX7_fault ∈ ALL := List.mem_filter.mpr ⟨List.mem_of_getElem? (i := 1042) (by decide +kernel), rfl⟩
theorem q_1043 : Cond.code yX7_fault cX7_fault 3 (some .int) ∈ ALL := List.mem_filter.mpr ⟨List.mem_of_getElem? (i := 1043) (by decide +kernel), rfl⟩
theorem q_1044 : Cond.methodLink RX7 218 yX7_copies ∈ ALL := List.mem_filter.mpr ⟨List.mem_of_getElem? (i := 1044) (by decide +kernel), rfl⟩
theorem q_1045 : Cond.static yX7_copies ∈ ALL := List.mem_filter.mpr ⟨List.mem_of_getElem? (i := 1045) (by decide +kernel), rfl⟩
theorem q_1046 : Cond.code yX7_copies cX7_copies 3 none ∈ ALL := List.mem_filter.mpr ⟨List.mem_of_getElem? (i := 1046) (by decide +kernel), rfl⟩
theorem q_1047 : Cond.methodLink RX7 222 yX7_plays ∈ ALL := List.mem_filter.mpr ⟨List.mem_of_getElem? (i := 1047) (by decide +kernel), rfl⟩
theorem q_1049 : Cond.instanceMethod yX7_plays ∈ ALL := List.mem_filter.mpr ⟨List.mem_of_getElem? (i := 1049) (by decide +kernel), rfl⟩
theorem q_1050 : Cond.code yX7_plays cX7_plays 4 (some .boolean) ∈ ALL := List.mem_filter.mpr ⟨List.mem_of_getElem? (i := 1050) (by decide +kernel), rfl⟩
theorem q_1051 : Cond.methodLink RX7 206 yX7_parses ∈ ALL := List.mem_filter.mpr ⟨List.mem_of_getElem? (i := 1051) (by decide +kernel), rfl⟩
theorem q_1053 : Cond.instanceMethod yX7_parses ∈ ALL := List.mem_filter.mpr ⟨List.mem_of_getElem? (i := 1053) (by decide +kernel), rfl⟩
theorem q_1054 : Cond.code yX7_parses cX7_parses 4 (some .boolean) ∈ ALL := List.mem_filter.mpr ⟨List.mem_of_getElem? (i := 1054) (by decide +kernel), rfl⟩
theorem q_1055 : Cond.methodLink RX7 166 yX7_isAt ∈ ALL := List.mem_filter.mpr ⟨List.mem_of_getElem? (i := 1055) (by decide +kernel), rfl⟩
theorem q_1057 : Cond.instanceMethod yX7_isAt ∈ ALL := List.mem_filter.mpr ⟨List.mem_of_getElem? (i := 1057) (by decide +kernel), rfl⟩
theorem q_1058 : Cond.code yX7_isAt cX7_isAt 3 (some .boolean) ∈ ALL := List.mem_filter.mpr ⟨List.mem_of_getElem? (i := 1058) (by decide +kernel), rfl⟩
theorem q_1059 : Cond.methodLink RX7 172 yX7_numbersOf ∈ ALL := List.mem_filter.mpr ⟨List.mem_of_getElem? (i := 1059) (by decide +kernel), rfl⟩
theorem q_1060 : Cond.static yX7_numbersOf ∈ ALL := List.mem_filter.mpr ⟨List.mem_of_getElem? (i := 1060) (by decide +kernel), rfl⟩
theorem q_1061 : Cond.code yX7_numbersOf cX7_numbersOf 1 (some .int) ∈ ALL := List.mem_filter.mpr ⟨List.mem_of_getElem? (i := 1061) (by decide +kernel), rfl⟩
theorem q_1062 : Cond.methodLink RX7 175 yX7_numbered ∈ ALL := List.mem_filter.mpr ⟨List.mem_of_getElem? (i := 1062) (by decide +kernel), rfl⟩
theorem q_1064 : Cond.instanceMethod yX7_numbered ∈ ALL := List.mem_filter.mpr ⟨List.mem_of_getElem? (i := 1064) (by decide +kernel), rfl⟩
theorem q_1065 : Cond.code yX7_numbered cX7_numbered 3 (some .boolean) ∈ ALL := List.mem_filter.mpr ⟨List.mem_of_getElem? (i := 1065) (by decide +kernel), rfl⟩
theorem q_1066 : Cond.methodLink RX7 178 yX7_sign ∈ ALL := List.mem_filter.mpr ⟨List.mem_of_getElem? (i := 1066) (by decide +kernel), rfl⟩
theorem q_1068 : Cond.instanceMethod yX7_sign ∈ ALL := List.mem_filter.mpr ⟨List.mem_of_getElem? (i := 1068) (by decide +kernel), rfl⟩
theorem q_1069 : Cond.code yX7_sign cX7_sign 3 (some .boolean) ∈ ALL := List.mem_filter.mpr ⟨List.mem_of_getElem? (i := 1069) (by decide +kernel), rfl⟩
theorem q_1070 : Cond.methodLink RX7 209 yX7_does ∈ ALL := List.mem_filter.mpr ⟨List.mem_of_getElem? (i := 1070) (by decide +kernel), rfl⟩
theorem q_1072 : Cond.instanceMethod yX7_does ∈ ALL := List.mem_filter.mpr ⟨List.mem_of_getElem? (i := 1072) (by decide +kernel), rfl⟩
theorem q_1073 : Cond.code yX7_does cX7_does 1 (some .int) ∈ ALL := List.mem_filter.mpr ⟨List.mem_of_getElem? (i := 1073) (by decide +kernel), rfl⟩
theorem q_1074 : Cond.methodLink RX7 181 yX7_puppet ∈ ALL := List.mem_filter.mpr ⟨List.mem_of_getElem? (i := 1074) (by decide +kernel), rfl⟩
theorem q_1075 : Cond.methodLink RX7 184 yX7_tie ∈ ALL := List.mem_filter.mpr ⟨List.mem_of_getElem? (i := 1075) (by decide +kernel), rfl⟩
theorem q_1076 : Cond.methodLink RX7 188 yX7_cut ∈ ALL := List.mem_filter.mpr ⟨List.mem_of_getElem? (i := 1076) (by decide +kernel), rfl⟩
theorem q_1077 : Cond.methodLink RX7 191 yX7_cutDeal ∈ ALL := List.mem_filter.mpr ⟨List.mem_of_getElem? (i := 1077) (by decide +kernel), rfl⟩
theorem q_1078 : Cond.methodLink RX7 194 yX7_pull ∈ ALL := List.mem_filter.mpr ⟨List.mem_of_getElem? (i := 1078) (by decide +kernel), rfl⟩
theorem q_1079 : Cond.methodLink RX7 197 yX7_session ∈ ALL := List.mem_filter.mpr ⟨List.mem_of_getElem? (i := 1079) (by decide +kernel), rfl⟩
theorem q_1080 : Cond.methodLink RL 113 yX7_play ∈ ALL := List.mem_filter.mpr ⟨List.mem_of_getElem? (i := 1080) (by decide +kernel), rfl⟩
theorem q_1081 : Cond.instanceMethod yX7_play ∈ ALL := List.mem_filter.mpr ⟨List.mem_of_getElem? (i := 1081) (by decide +kernel), rfl⟩
theorem q_1082 : Cond.selects RX7 yX7_play yX7_play ∈ ALL := List.mem_filter.mpr ⟨List.mem_of_getElem? (i := 1082) (by decide +kernel), rfl⟩
theorem q_1083 : Cond.code yX7_play cX7_play 2 (some .int) ∈ ALL := List.mem_filter.mpr ⟨List.mem_of_getElem? (i := 1083) (by decide +kernel), rfl⟩
theorem uw_X0 : ∀ w ∈ u_ws RX0 TX0 3, w ∈ ALL := by decide +kernel
theorem uw_X1 : ∀ w ∈ u_ws RX1 TX1 13, w ∈ ALL := by decide +kernel
theorem uw_X2 : ∀ w ∈ u_ws RX2 TX2 1, w ∈ ALL := by decide +kernel
theorem uw_X3 : ∀ w ∈ u_ws RX3 TX3 6, w ∈ ALL := by decide +kernel
theorem uw_X4 : ∀ w ∈ u_ws RX4 TX4 5, w ∈ ALL := by decide +kernel
theorem uw_X5 : ∀ w ∈ u_ws RX5 TX5 3, w ∈ ALL := by decide +kernel
theorem uw_X6 : ∀ w ∈ u_ws RX6 TX6 11, w ∈ ALL := by decide +kernel
theorem uw_X7 : ∀ w ∈ u_ws RX7 TX7 18, w ∈ ALL := by decide +kernel
