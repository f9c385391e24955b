section
-- ===== PART A: goes FIRST, ahead of the names: the tables' words, and 'selects' of the private methods out of them =====
/-- a private method of a class that the tables say can be made, by its rows of tables_1 -/
def lw_okq (q : MethodName × Nat) : Prop := (q.1.cls ≠ "java/lang/invoke/MethodHandle" ∧ q.1.cls ≠ "java/lang/invoke/VarHandle") ∧ Cond.instantiable q.1.cls q.2 ∈ tables_1 ∧ Cond.privateMethod q.1 ∈ tables_1 ∧ Cond.instanceMethod q.1 ∈ tables_1
theorem lw_p0 : lw_okq (⟨"StringVotes$Parliament", "copyFrom", "(LStringVotes$Parliament;)V"⟩, 13) := ⟨⟨by decide +kernel, by decide +kernel⟩, List.mem_of_getElem? (i := 22) (by decide +kernel), List.mem_of_getElem? (i := 241) (by decide +kernel), List.mem_of_getElem? (i := 242) (by decide +kernel)⟩
theorem lw_p1 : lw_okq (⟨"StringVotes$Row", "copyFrom", "(LStringVotes$Row;)V"⟩, 1) := ⟨⟨by decide +kernel, by decide +kernel⟩, List.mem_of_getElem? (i := 28) (by decide +kernel), List.mem_of_getElem? (i := 245) (by decide +kernel), List.mem_of_getElem? (i := 246) (by decide +kernel)⟩
theorem lw_p2 : lw_okq (⟨"StringVotes$Strings", "copyFrom", "(LStringVotes$Strings;)V"⟩, 6) := ⟨⟨by decide +kernel, by decide +kernel⟩, List.mem_of_getElem? (i := 42) (by decide +kernel), List.mem_of_getElem? (i := 255) (by decide +kernel), List.mem_of_getElem? (i := 256) (by decide +kernel)⟩
theorem lw_p3 : lw_okq (⟨"StringVotes$Book", "copyFrom", "(LStringVotes$Book;)V"⟩, 3) := ⟨⟨by decide +kernel, by decide +kernel⟩, List.mem_of_getElem? (i := 79) (by decide +kernel), List.mem_of_getElem? (i := 260) (by decide +kernel), List.mem_of_getElem? (i := 261) (by decide +kernel)⟩
theorem lw_p4 : lw_okq (⟨"StringVotes$Parliament", "addPuppet", "(II)I"⟩, 13) := ⟨⟨by decide +kernel, by decide +kernel⟩, List.mem_of_getElem? (i := 22) (by decide +kernel), List.mem_of_getElem? (i := 265) (by decide +kernel), List.mem_of_getElem? (i := 266) (by decide +kernel)⟩
theorem lw_p5 : lw_okq (⟨"StringVotes$Row", "put", "(II)V"⟩, 1) := ⟨⟨by decide +kernel, by decide +kernel⟩, List.mem_of_getElem? (i := 28) (by decide +kernel), List.mem_of_getElem? (i := 274) (by decide +kernel), List.mem_of_getElem? (i := 275) (by decide +kernel)⟩
theorem lw_p6 : lw_okq (⟨"StringVotes$Parliament", "tellGroups", "()V"⟩, 13) := ⟨⟨by decide +kernel, by decide +kernel⟩, List.mem_of_getElem? (i := 22) (by decide +kernel), List.mem_of_getElem? (i := 278) (by decide +kernel), List.mem_of_getElem? (i := 279) (by decide +kernel)⟩
theorem lw_p7 : lw_okq (⟨"StringVotes$Parliament", "joinBy", "(I)V"⟩, 13) := ⟨⟨by decide +kernel, by decide +kernel⟩, List.mem_of_getElem? (i := 22) (by decide +kernel), List.mem_of_getElem? (i := 282) (by decide +kernel), List.mem_of_getElem? (i := 283) (by decide +kernel)⟩
theorem lw_p8 : lw_okq (⟨"StringVotes$Row", "get", "(I)I"⟩, 1) := ⟨⟨by decide +kernel, by decide +kernel⟩, List.mem_of_getElem? (i := 28) (by decide +kernel), List.mem_of_getElem? (i := 286) (by decide +kernel), List.mem_of_getElem? (i := 287) (by decide +kernel)⟩
theorem lw_p9 : lw_okq (⟨"StringVotes$Parliament", "tellVotes", "()V"⟩, 13) := ⟨⟨by decide +kernel, by decide +kernel⟩, List.mem_of_getElem? (i := 22) (by decide +kernel), List.mem_of_getElem? (i := 292) (by decide +kernel), List.mem_of_getElem? (i := 293) (by decide +kernel)⟩
theorem lw_p10 : lw_okq (⟨"StringVotes$Parliament", "pulledVote", "(I)I"⟩, 13) := ⟨⟨by decide +kernel, by decide +kernel⟩, List.mem_of_getElem? (i := 22) (by decide +kernel), List.mem_of_getElem? (i := 296) (by decide +kernel), List.mem_of_getElem? (i := 297) (by decide +kernel)⟩
theorem lw_p11 : lw_okq (⟨"StringVotes$Parliament", "leadingVote", "(I)I"⟩, 13) := ⟨⟨by decide +kernel, by decide +kernel⟩, List.mem_of_getElem? (i := 22) (by decide +kernel), List.mem_of_getElem? (i := 300) (by decide +kernel), List.mem_of_getElem? (i := 301) (by decide +kernel)⟩
theorem lw_p12 : lw_okq (⟨"StringVotes", "settle", "(I)I"⟩, 11) := ⟨⟨by decide +kernel, by decide +kernel⟩, List.mem_of_getElem? (i := 14) (by decide +kernel), List.mem_of_getElem? (i := 304) (by decide +kernel), List.mem_of_getElem? (i := 305) (by decide +kernel)⟩
theorem lw_p13 : lw_okq (⟨"StringVotes", "remember", "()V"⟩, 11) := ⟨⟨by decide +kernel, by decide +kernel⟩, List.mem_of_getElem? (i := 14) (by decide +kernel), List.mem_of_getElem? (i := 311) (by decide +kernel), List.mem_of_getElem? (i := 312) (by decide +kernel)⟩
theorem lw_p14 : lw_okq (⟨"StringVotes", "pastState", "(I)LStringVotes$Parliament;"⟩, 11) := ⟨⟨by decide +kernel, by decide +kernel⟩, List.mem_of_getElem? (i := 14) (by decide +kernel), List.mem_of_getElem? (i := 315) (by decide +kernel), List.mem_of_getElem? (i := 316) (by decide +kernel)⟩
theorem lw_p15 : lw_okq (⟨"StringVotes$Parliament", "addString", "(IIII)I"⟩, 13) := ⟨⟨by decide +kernel, by decide +kernel⟩, List.mem_of_getElem? (i := 22) (by decide +kernel), List.mem_of_getElem? (i := 323) (by decide +kernel), List.mem_of_getElem? (i := 324) (by decide +kernel)⟩
def lw_privs_1 : List (MethodName × Nat) := [(⟨"StringVotes$Parliament", "copyFrom", "(LStringVotes$Parliament;)V"⟩, 13), (⟨"StringVotes$Row", "copyFrom", "(LStringVotes$Row;)V"⟩, 1), (⟨"StringVotes$Strings", "copyFrom", "(LStringVotes$Strings;)V"⟩, 6), (⟨"StringVotes$Book", "copyFrom", "(LStringVotes$Book;)V"⟩, 3), (⟨"StringVotes$Parliament", "addPuppet", "(II)I"⟩, 13), (⟨"StringVotes$Row", "put", "(II)V"⟩, 1), (⟨"StringVotes$Parliament", "tellGroups", "()V"⟩, 13), (⟨"StringVotes$Parliament", "joinBy", "(I)V"⟩, 13), (⟨"StringVotes$Row", "get", "(I)I"⟩, 1), (⟨"StringVotes$Parliament", "tellVotes", "()V"⟩, 13), (⟨"StringVotes$Parliament", "pulledVote", "(I)I"⟩, 13), (⟨"StringVotes$Parliament", "leadingVote", "(I)I"⟩, 13), (⟨"StringVotes", "settle", "(I)I"⟩, 11), (⟨"StringVotes", "remember", "()V"⟩, 11), (⟨"StringVotes", "pastState", "(I)LStringVotes$Parliament;"⟩, 11), (⟨"StringVotes$Parliament", "addString", "(IIII)I"⟩, 13)]
theorem lw_r1 : ∀ q ∈ lw_privs_1, lw_okq q := List.forall_mem_cons.mpr ⟨lw_p0, List.forall_mem_cons.mpr ⟨lw_p1, List.forall_mem_cons.mpr ⟨lw_p2, List.forall_mem_cons.mpr ⟨lw_p3, List.forall_mem_cons.mpr ⟨lw_p4, List.forall_mem_cons.mpr ⟨lw_p5, List.forall_mem_cons.mpr ⟨lw_p6, List.forall_mem_cons.mpr ⟨lw_p7, List.forall_mem_cons.mpr ⟨lw_p8, List.forall_mem_cons.mpr ⟨lw_p9, List.forall_mem_cons.mpr ⟨lw_p10, List.forall_mem_cons.mpr ⟨lw_p11, List.forall_mem_cons.mpr ⟨lw_p12, List.forall_mem_cons.mpr ⟨lw_p13, List.forall_mem_cons.mpr ⟨lw_p14, List.forall_mem_cons.mpr ⟨lw_p15, fun _ h => absurd h List.not_mem_nil⟩⟩⟩⟩⟩⟩⟩⟩⟩⟩⟩⟩⟩⟩⟩⟩
theorem lw_p16 : lw_okq (⟨"StringVotes$Parliament", "arePair", "(II)Z"⟩, 13) := ⟨⟨by decide +kernel, by decide +kernel⟩, List.mem_of_getElem? (i := 22) (by decide +kernel), List.mem_of_getElem? (i := 327) (by decide +kernel), List.mem_of_getElem? (i := 328) (by decide +kernel)⟩
theorem lw_p17 : lw_okq (⟨"StringVotes$Parliament", "hasPuppet", "(I)Z"⟩, 13) := ⟨⟨by decide +kernel, by decide +kernel⟩, List.mem_of_getElem? (i := 22) (by decide +kernel), List.mem_of_getElem? (i := 331) (by decide +kernel), List.mem_of_getElem? (i := 332) (by decide +kernel)⟩
theorem lw_p18 : lw_okq (⟨"StringVotes$Parliament", "reasonAgainstString", "(III)I"⟩, 13) := ⟨⟨by decide +kernel, by decide +kernel⟩, List.mem_of_getElem? (i := 22) (by decide +kernel), List.mem_of_getElem? (i := 335) (by decide +kernel), List.mem_of_getElem? (i := 336) (by decide +kernel)⟩
theorem lw_p19 : lw_okq (⟨"StringVotes$Strings", "areTied", "(II)Z"⟩, 6) := ⟨⟨by decide +kernel, by decide +kernel⟩, List.mem_of_getElem? (i := 42) (by decide +kernel), List.mem_of_getElem? (i := 339) (by decide +kernel), List.mem_of_getElem? (i := 340) (by decide +kernel)⟩
theorem lw_p20 : lw_okq (⟨"StringVotes$Parliament", "hangTogether", "(II)Z"⟩, 13) := ⟨⟨by decide +kernel, by decide +kernel⟩, List.mem_of_getElem? (i := 22) (by decide +kernel), List.mem_of_getElem? (i := 346) (by decide +kernel), List.mem_of_getElem? (i := 347) (by decide +kernel)⟩
theorem lw_p21 : lw_okq (⟨"StringVotes$Strings", "append", "(IIII)I"⟩, 6) := ⟨⟨by decide +kernel, by decide +kernel⟩, List.mem_of_getElem? (i := 42) (by decide +kernel), List.mem_of_getElem? (i := 351) (by decide +kernel), List.mem_of_getElem? (i := 352) (by decide +kernel)⟩
theorem lw_p22 : lw_okq (⟨"StringVotes$Parliament", "cutString", "(I)I"⟩, 13) := ⟨⟨by decide +kernel, by decide +kernel⟩, List.mem_of_getElem? (i := 22) (by decide +kernel), List.mem_of_getElem? (i := 360) (by decide +kernel), List.mem_of_getElem? (i := 361) (by decide +kernel)⟩
theorem lw_p23 : lw_okq (⟨"StringVotes$Strings", "has", "(I)Z"⟩, 6) := ⟨⟨by decide +kernel, by decide +kernel⟩, List.mem_of_getElem? (i := 42) (by decide +kernel), List.mem_of_getElem? (i := 364) (by decide +kernel), List.mem_of_getElem? (i := 365) (by decide +kernel)⟩
theorem lw_p24 : lw_okq (⟨"StringVotes$Strings", "removeAt", "(I)V"⟩, 6) := ⟨⟨by decide +kernel, by decide +kernel⟩, List.mem_of_getElem? (i := 42) (by decide +kernel), List.mem_of_getElem? (i := 368) (by decide +kernel), List.mem_of_getElem? (i := 369) (by decide +kernel)⟩
theorem lw_p25 : lw_okq (⟨"StringVotes$Row", "removeAt", "(I)V"⟩, 1) := ⟨⟨by decide +kernel, by decide +kernel⟩, List.mem_of_getElem? (i := 28) (by decide +kernel), List.mem_of_getElem? (i := 372) (by decide +kernel), List.mem_of_getElem? (i := 373) (by decide +kernel)⟩
theorem lw_p26 : lw_okq (⟨"StringVotes$Parliament", "cutStringsOf", "(I)I"⟩, 13) := ⟨⟨by decide +kernel, by decide +kernel⟩, List.mem_of_getElem? (i := 22) (by decide +kernel), List.mem_of_getElem? (i := 380) (by decide +kernel), List.mem_of_getElem? (i := 381) (by decide +kernel)⟩
theorem lw_p27 : lw_okq (⟨"StringVotes$Strings", "removeAllOf", "(I)I"⟩, 6) := ⟨⟨by decide +kernel, by decide +kernel⟩, List.mem_of_getElem? (i := 42) (by decide +kernel), List.mem_of_getElem? (i := 384) (by decide +kernel), List.mem_of_getElem? (i := 385) (by decide +kernel)⟩
theorem lw_p28 : lw_okq (⟨"StringVotes$Parliament", "pullTo", "(II)I"⟩, 13) := ⟨⟨by decide +kernel, by decide +kernel⟩, List.mem_of_getElem? (i := 22) (by decide +kernel), List.mem_of_getElem? (i := 393) (by decide +kernel), List.mem_of_getElem? (i := 394) (by decide +kernel)⟩
theorem lw_p29 : lw_okq (⟨"StringVotes$Parliament", "reasonAgainstPull", "(II)I"⟩, 13) := ⟨⟨by decide +kernel, by decide +kernel⟩, List.mem_of_getElem? (i := 22) (by decide +kernel), List.mem_of_getElem? (i := 397) (by decide +kernel), List.mem_of_getElem? (i := 398) (by decide +kernel)⟩
theorem lw_p30 : lw_okq (⟨"StringVotes$Parliament", "isPulled", "(I)Z"⟩, 13) := ⟨⟨by decide +kernel, by decide +kernel⟩, List.mem_of_getElem? (i := 22) (by decide +kernel), List.mem_of_getElem? (i := 401) (by decide +kernel), List.mem_of_getElem? (i := 402) (by decide +kernel)⟩
theorem lw_p31 : lw_okq (⟨"StringVotes$Parliament", "letGo", "(I)I"⟩, 13) := ⟨⟨by decide +kernel, by decide +kernel⟩, List.mem_of_getElem? (i := 22) (by decide +kernel), List.mem_of_getElem? (i := 409) (by decide +kernel), List.mem_of_getElem? (i := 410) (by decide +kernel)⟩
def lw_privs_2 : List (MethodName × Nat) := [(⟨"StringVotes$Parliament", "arePair", "(II)Z"⟩, 13), (⟨"StringVotes$Parliament", "hasPuppet", "(I)Z"⟩, 13), (⟨"StringVotes$Parliament", "reasonAgainstString", "(III)I"⟩, 13), (⟨"StringVotes$Strings", "areTied", "(II)Z"⟩, 6), (⟨"StringVotes$Parliament", "hangTogether", "(II)Z"⟩, 13), (⟨"StringVotes$Strings", "append", "(IIII)I"⟩, 6), (⟨"StringVotes$Parliament", "cutString", "(I)I"⟩, 13), (⟨"StringVotes$Strings", "has", "(I)Z"⟩, 6), (⟨"StringVotes$Strings", "removeAt", "(I)V"⟩, 6), (⟨"StringVotes$Row", "removeAt", "(I)V"⟩, 1), (⟨"StringVotes$Parliament", "cutStringsOf", "(I)I"⟩, 13), (⟨"StringVotes$Strings", "removeAllOf", "(I)I"⟩, 6), (⟨"StringVotes$Parliament", "pullTo", "(II)I"⟩, 13), (⟨"StringVotes$Parliament", "reasonAgainstPull", "(II)I"⟩, 13), (⟨"StringVotes$Parliament", "isPulled", "(I)Z"⟩, 13), (⟨"StringVotes$Parliament", "letGo", "(I)I"⟩, 13)]
theorem lw_r2 : ∀ q ∈ lw_privs_2, lw_okq q := List.forall_mem_cons.mpr ⟨lw_p16, List.forall_mem_cons.mpr ⟨lw_p17, List.forall_mem_cons.mpr ⟨lw_p18, List.forall_mem_cons.mpr ⟨lw_p19, List.forall_mem_cons.mpr ⟨lw_p20, List.forall_mem_cons.mpr ⟨lw_p21, List.forall_mem_cons.mpr ⟨lw_p22, List.forall_mem_cons.mpr ⟨lw_p23, List.forall_mem_cons.mpr ⟨lw_p24, List.forall_mem_cons.mpr ⟨lw_p25, List.forall_mem_cons.mpr ⟨lw_p26, List.forall_mem_cons.mpr ⟨lw_p27, List.forall_mem_cons.mpr ⟨lw_p28, List.forall_mem_cons.mpr ⟨lw_p29, List.forall_mem_cons.mpr ⟨lw_p30, List.forall_mem_cons.mpr ⟨lw_p31, fun _ h => absurd h List.not_mem_nil⟩⟩⟩⟩⟩⟩⟩⟩⟩⟩⟩⟩⟩⟩⟩⟩
theorem lw_p32 : lw_okq (⟨"StringVotes$Parliament", "holdSession", "()I"⟩, 13) := ⟨⟨by decide +kernel, by decide +kernel⟩, List.mem_of_getElem? (i := 22) (by decide +kernel), List.mem_of_getElem? (i := 417) (by decide +kernel), List.mem_of_getElem? (i := 418) (by decide +kernel)⟩
theorem lw_p33 : lw_okq (⟨"StringVotes$Parliament", "wouldPass", "()I"⟩, 13) := ⟨⟨by decide +kernel, by decide +kernel⟩, List.mem_of_getElem? (i := 22) (by decide +kernel), List.mem_of_getElem? (i := 421) (by decide +kernel), List.mem_of_getElem? (i := 422) (by decide +kernel)⟩
theorem lw_p34 : lw_okq (⟨"StringVotes$Book", "enter", "(IIII)V"⟩, 3) := ⟨⟨by decide +kernel, by decide +kernel⟩, List.mem_of_getElem? (i := 79) (by decide +kernel), List.mem_of_getElem? (i := 425) (by decide +kernel), List.mem_of_getElem? (i := 426) (by decide +kernel)⟩
theorem lw_p35 : lw_okq (⟨"StringVotes$Parliament", "bindPulls", "(I)I"⟩, 13) := ⟨⟨by decide +kernel, by decide +kernel⟩, List.mem_of_getElem? (i := 22) (by decide +kernel), List.mem_of_getElem? (i := 436) (by decide +kernel), List.mem_of_getElem? (i := 437) (by decide +kernel)⟩
theorem lw_p36 : lw_okq (⟨"StringVotes$Strings", "howManyAt", "(I)I"⟩, 6) := ⟨⟨by decide +kernel, by decide +kernel⟩, List.mem_of_getElem? (i := 42) (by decide +kernel), List.mem_of_getElem? (i := 448) (by decide +kernel), List.mem_of_getElem? (i := 449) (by decide +kernel)⟩
theorem lw_p37 : lw_okq (⟨"StringVotes$Parliament", "membersOf", "(I)I"⟩, 13) := ⟨⟨by decide +kernel, by decide +kernel⟩, List.mem_of_getElem? (i := 22) (by decide +kernel), List.mem_of_getElem? (i := 452) (by decide +kernel), List.mem_of_getElem? (i := 453) (by decide +kernel)⟩
theorem lw_p38 : lw_okq (⟨"StringVotes$Parliament", "seatsIn", "(I)I"⟩, 13) := ⟨⟨by decide +kernel, by decide +kernel⟩, List.mem_of_getElem? (i := 22) (by decide +kernel), List.mem_of_getElem? (i := 456) (by decide +kernel), List.mem_of_getElem? (i := 457) (by decide +kernel)⟩
theorem lw_p39 : lw_okq (⟨"StringVotes", "hangTogetherWithout", "(I)Z"⟩, 11) := ⟨⟨by decide +kernel, by decide +kernel⟩, List.mem_of_getElem? (i := 14) (by decide +kernel), List.mem_of_getElem? (i := 468) (by decide +kernel), List.mem_of_getElem? (i := 469) (by decide +kernel)⟩
theorem lw_p40 : lw_okq (⟨"StringVotes$Strings", "oneStringFurther", "(I)I"⟩, 6) := ⟨⟨by decide +kernel, by decide +kernel⟩, List.mem_of_getElem? (i := 42) (by decide +kernel), List.mem_of_getElem? (i := 478) (by decide +kernel), List.mem_of_getElem? (i := 479) (by decide +kernel)⟩
theorem lw_p41 : lw_okq (⟨"StringVotes$Book", "kept", "()I"⟩, 3) := ⟨⟨by decide +kernel, by decide +kernel⟩, List.mem_of_getElem? (i := 79) (by decide +kernel), List.mem_of_getElem? (i := 487) (by decide +kernel), List.mem_of_getElem? (i := 488) (by decide +kernel)⟩
theorem lw_p42 : lw_okq (⟨"StringVotes$Book", "entry", "(II)I"⟩, 3) := ⟨⟨by decide +kernel, by decide +kernel⟩, List.mem_of_getElem? (i := 79) (by decide +kernel), List.mem_of_getElem? (i := 492) (by decide +kernel), List.mem_of_getElem? (i := 493) (by decide +kernel)⟩
theorem lw_p43 : lw_okq (⟨"StringVotes", "seatsIfPulled", "(II)I"⟩, 11) := ⟨⟨by decide +kernel, by decide +kernel⟩, List.mem_of_getElem? (i := 14) (by decide +kernel), List.mem_of_getElem? (i := 511) (by decide +kernel), List.mem_of_getElem? (i := 512) (by decide +kernel)⟩
theorem lw_p44 : lw_okq (⟨"StringVotes$Turns", "collect", "(LStringVotes$Parliament;)V"⟩, 3) := ⟨⟨by decide +kernel, by decide +kernel⟩, List.mem_of_getElem? (i := 157) (by decide +kernel), List.mem_of_getElem? (i := 520) (by decide +kernel), List.mem_of_getElem? (i := 521) (by decide +kernel)⟩
theorem lw_p45 : lw_okq (⟨"StringVotes$Parliament", "yesVoters", "()I"⟩, 13) := ⟨⟨by decide +kernel, by decide +kernel⟩, List.mem_of_getElem? (i := 22) (by decide +kernel), List.mem_of_getElem? (i := 525) (by decide +kernel), List.mem_of_getElem? (i := 526) (by decide +kernel)⟩
theorem lw_p46 : lw_okq (⟨"StringVotes$Turns", "fewestByTheBest", "()I"⟩, 3) := ⟨⟨by decide +kernel, by decide +kernel⟩, List.mem_of_getElem? (i := 157) (by decide +kernel), List.mem_of_getElem? (i := 531) (by decide +kernel), List.mem_of_getElem? (i := 532) (by decide +kernel)⟩
theorem lw_p47 : lw_okq (⟨"StringVotes$Turns", "bestBut", "(I)I"⟩, 3) := ⟨⟨by decide +kernel, by decide +kernel⟩, List.mem_of_getElem? (i := 157) (by decide +kernel), List.mem_of_getElem? (i := 535) (by decide +kernel), List.mem_of_getElem? (i := 536) (by decide +kernel)⟩
def lw_privs_3 : List (MethodName × Nat) := [(⟨"StringVotes$Parliament", "holdSession", "()I"⟩, 13), (⟨"StringVotes$Parliament", "wouldPass", "()I"⟩, 13), (⟨"StringVotes$Book", "enter", "(IIII)V"⟩, 3), (⟨"StringVotes$Parliament", "bindPulls", "(I)I"⟩, 13), (⟨"StringVotes$Strings", "howManyAt", "(I)I"⟩, 6), (⟨"StringVotes$Parliament", "membersOf", "(I)I"⟩, 13), (⟨"StringVotes$Parliament", "seatsIn", "(I)I"⟩, 13), (⟨"StringVotes", "hangTogetherWithout", "(I)Z"⟩, 11), (⟨"StringVotes$Strings", "oneStringFurther", "(I)I"⟩, 6), (⟨"StringVotes$Book", "kept", "()I"⟩, 3), (⟨"StringVotes$Book", "entry", "(II)I"⟩, 3), (⟨"StringVotes", "seatsIfPulled", "(II)I"⟩, 11), (⟨"StringVotes$Turns", "collect", "(LStringVotes$Parliament;)V"⟩, 3), (⟨"StringVotes$Parliament", "yesVoters", "()I"⟩, 13), (⟨"StringVotes$Turns", "fewestByTheBest", "()I"⟩, 3), (⟨"StringVotes$Turns", "bestBut", "(I)I"⟩, 3)]
theorem lw_r3 : ∀ q ∈ lw_privs_3, lw_okq q := List.forall_mem_cons.mpr ⟨lw_p32, List.forall_mem_cons.mpr ⟨lw_p33, List.forall_mem_cons.mpr ⟨lw_p34, List.forall_mem_cons.mpr ⟨lw_p35, List.forall_mem_cons.mpr ⟨lw_p36, List.forall_mem_cons.mpr ⟨lw_p37, List.forall_mem_cons.mpr ⟨lw_p38, List.forall_mem_cons.mpr ⟨lw_p39, List.forall_mem_cons.mpr ⟨lw_p40, List.forall_mem_cons.mpr ⟨lw_p41, List.forall_mem_cons.mpr ⟨lw_p42, List.forall_mem_cons.mpr ⟨lw_p43, List.forall_mem_cons.mpr ⟨lw_p44, List.forall_mem_cons.mpr ⟨lw_p45, List.forall_mem_cons.mpr ⟨lw_p46, List.forall_mem_cons.mpr ⟨lw_p47, fun _ h => absurd h List.not_mem_nil⟩⟩⟩⟩⟩⟩⟩⟩⟩⟩⟩⟩⟩⟩⟩⟩
theorem lw_p48 : lw_okq (⟨"StringVotes$Turns", "fewestOfAllSets", "()I"⟩, 3) := ⟨⟨by decide +kernel, by decide +kernel⟩, List.mem_of_getElem? (i := 157) (by decide +kernel), List.mem_of_getElem? (i := 541) (by decide +kernel), List.mem_of_getElem? (i := 542) (by decide +kernel)⟩
theorem lw_p49 : lw_okq (⟨"StringVotes$Turns", "stepTo", "(I)I"⟩, 3) := ⟨⟨by decide +kernel, by decide +kernel⟩, List.mem_of_getElem? (i := 157) (by decide +kernel), List.mem_of_getElem? (i := 545) (by decide +kernel), List.mem_of_getElem? (i := 546) (by decide +kernel)⟩
theorem lw_p50 : lw_okq (⟨"StringVotes$Parliament", "groupsByJoining", "()I"⟩, 13) := ⟨⟨by decide +kernel, by decide +kernel⟩, List.mem_of_getElem? (i := 22) (by decide +kernel), List.mem_of_getElem? (i := 559) (by decide +kernel), List.mem_of_getElem? (i := 560) (by decide +kernel)⟩
theorem lw_p51 : lw_okq (⟨"StringVotes$Parliament", "groupsByWalking", "()I"⟩, 13) := ⟨⟨by decide +kernel, by decide +kernel⟩, List.mem_of_getElem? (i := 22) (by decide +kernel), List.mem_of_getElem? (i := 575) (by decide +kernel), List.mem_of_getElem? (i := 576) (by decide +kernel)⟩
theorem lw_p52 : lw_okq (⟨"StringVotes$Parliament", "walkFrom", "(I)I"⟩, 13) := ⟨⟨by decide +kernel, by decide +kernel⟩, List.mem_of_getElem? (i := 22) (by decide +kernel), List.mem_of_getElem? (i := 579) (by decide +kernel), List.mem_of_getElem? (i := 580) (by decide +kernel)⟩
theorem lw_p53 : lw_okq (⟨"StringVotes$Parliament", "pulledPuppets", "()I"⟩, 13) := ⟨⟨by decide +kernel, by decide +kernel⟩, List.mem_of_getElem? (i := 22) (by decide +kernel), List.mem_of_getElem? (i := 585) (by decide +kernel), List.mem_of_getElem? (i := 586) (by decide +kernel)⟩
theorem lw_p54 : lw_okq (⟨"StringVotes$Text", "append", "(I)Z"⟩, 5) := ⟨⟨by decide +kernel, by decide +kernel⟩, List.mem_of_getElem? (i := 175) (by decide +kernel), List.mem_of_getElem? (i := 598) (by decide +kernel), List.mem_of_getElem? (i := 599) (by decide +kernel)⟩
theorem lw_p55 : lw_okq (⟨"StringVotes", "tryOrders", "()Z"⟩, 11) := ⟨⟨by decide +kernel, by decide +kernel⟩, List.mem_of_getElem? (i := 14) (by decide +kernel), List.mem_of_getElem? (i := 612) (by decide +kernel), List.mem_of_getElem? (i := 613) (by decide +kernel)⟩
theorem lw_p56 : lw_okq (⟨"StringVotes$Text", "readOrder", "(I)Z"⟩, 5) := ⟨⟨by decide +kernel, by decide +kernel⟩, List.mem_of_getElem? (i := 175) (by decide +kernel), List.mem_of_getElem? (i := 616) (by decide +kernel), List.mem_of_getElem? (i := 617) (by decide +kernel)⟩
theorem lw_p57 : lw_okq (⟨"StringVotes$Text", "current", "()I"⟩, 5) := ⟨⟨by decide +kernel, by decide +kernel⟩, List.mem_of_getElem? (i := 175) (by decide +kernel), List.mem_of_getElem? (i := 620) (by decide +kernel), List.mem_of_getElem? (i := 621) (by decide +kernel)⟩
theorem lw_p58 : lw_okq (⟨"StringVotes$Text", "skip", "(I)Z"⟩, 5) := ⟨⟨by decide +kernel, by decide +kernel⟩, List.mem_of_getElem? (i := 175) (by decide +kernel), List.mem_of_getElem? (i := 628) (by decide +kernel), List.mem_of_getElem? (i := 629) (by decide +kernel)⟩
theorem lw_p59 : lw_okq (⟨"StringVotes$Text", "readNumber", "(I)Z"⟩, 5) := ⟨⟨by decide +kernel, by decide +kernel⟩, List.mem_of_getElem? (i := 175) (by decide +kernel), List.mem_of_getElem? (i := 632) (by decide +kernel), List.mem_of_getElem? (i := 633) (by decide +kernel)⟩
theorem lw_p60 : lw_okq (⟨"StringVotes", "foundFault", "(III)Z"⟩, 11) := ⟨⟨by decide +kernel, by decide +kernel⟩, List.mem_of_getElem? (i := 14) (by decide +kernel), List.mem_of_getElem? (i := 640) (by decide +kernel), List.mem_of_getElem? (i := 641) (by decide +kernel)⟩
theorem lw_p61 : lw_okq (⟨"StringVotes", "obey", "()I"⟩, 11) := ⟨⟨by decide +kernel, by decide +kernel⟩, List.mem_of_getElem? (i := 14) (by decide +kernel), List.mem_of_getElem? (i := 644) (by decide +kernel), List.mem_of_getElem? (i := 645) (by decide +kernel)⟩
theorem lw_p62 : lw_okq (⟨"StringVotesModel", "isPair", "(II)Z"⟩, 18) := ⟨⟨by decide +kernel, by decide +kernel⟩, List.mem_of_getElem? (i := 652) (by decide +kernel), List.mem_of_getElem? (i := 717) (by decide +kernel), List.mem_of_getElem? (i := 718) (by decide +kernel)⟩
theorem lw_p63 : lw_okq (⟨"StringVotesModel", "isPuppet", "(I)Z"⟩, 18) := ⟨⟨by decide +kernel, by decide +kernel⟩, List.mem_of_getElem? (i := 652) (by decide +kernel), List.mem_of_getElem? (i := 721) (by decide +kernel), List.mem_of_getElem? (i := 722) (by decide +kernel)⟩
def lw_privs_4 : List (MethodName × Nat) := [(⟨"StringVotes$Turns", "fewestOfAllSets", "()I"⟩, 3), (⟨"StringVotes$Turns", "stepTo", "(I)I"⟩, 3), (⟨"StringVotes$Parliament", "groupsByJoining", "()I"⟩, 13), (⟨"StringVotes$Parliament", "groupsByWalking", "()I"⟩, 13), (⟨"StringVotes$Parliament", "walkFrom", "(I)I"⟩, 13), (⟨"StringVotes$Parliament", "pulledPuppets", "()I"⟩, 13), (⟨"StringVotes$Text", "append", "(I)Z"⟩, 5), (⟨"StringVotes", "tryOrders", "()Z"⟩, 11), (⟨"StringVotes$Text", "readOrder", "(I)Z"⟩, 5), (⟨"StringVotes$Text", "current", "()I"⟩, 5), (⟨"StringVotes$Text", "skip", "(I)Z"⟩, 5), (⟨"StringVotes$Text", "readNumber", "(I)Z"⟩, 5), (⟨"StringVotes", "foundFault", "(III)Z"⟩, 11), (⟨"StringVotes", "obey", "()I"⟩, 11), (⟨"StringVotesModel", "isPair", "(II)Z"⟩, 18), (⟨"StringVotesModel", "isPuppet", "(I)Z"⟩, 18)]
theorem lw_r4 : ∀ q ∈ lw_privs_4, lw_okq q := List.forall_mem_cons.mpr ⟨lw_p48, List.forall_mem_cons.mpr ⟨lw_p49, List.forall_mem_cons.mpr ⟨lw_p50, List.forall_mem_cons.mpr ⟨lw_p51, List.forall_mem_cons.mpr ⟨lw_p52, List.forall_mem_cons.mpr ⟨lw_p53, List.forall_mem_cons.mpr ⟨lw_p54, List.forall_mem_cons.mpr ⟨lw_p55, List.forall_mem_cons.mpr ⟨lw_p56, List.forall_mem_cons.mpr ⟨lw_p57, List.forall_mem_cons.mpr ⟨lw_p58, List.forall_mem_cons.mpr ⟨lw_p59, List.forall_mem_cons.mpr ⟨lw_p60, List.forall_mem_cons.mpr ⟨lw_p61, List.forall_mem_cons.mpr ⟨lw_p62, List.forall_mem_cons.mpr ⟨lw_p63, fun _ h => absurd h List.not_mem_nil⟩⟩⟩⟩⟩⟩⟩⟩⟩⟩⟩⟩⟩⟩⟩⟩
theorem lw_p64 : lw_okq (⟨"StringVotesModel", "refused", "(III)I"⟩, 18) := ⟨⟨by decide +kernel, by decide +kernel⟩, List.mem_of_getElem? (i := 652) (by decide +kernel), List.mem_of_getElem? (i := 728) (by decide +kernel), List.mem_of_getElem? (i := 729) (by decide +kernel)⟩
theorem lw_p65 : lw_okq (⟨"StringVotesModel", "stringOfBoth", "(II)I"⟩, 18) := ⟨⟨by decide +kernel, by decide +kernel⟩, List.mem_of_getElem? (i := 652) (by decide +kernel), List.mem_of_getElem? (i := 732) (by decide +kernel), List.mem_of_getElem? (i := 733) (by decide +kernel)⟩
theorem lw_p66 : lw_okq (⟨"StringVotesModel", "tied", "(II)I"⟩, 18) := ⟨⟨by decide +kernel, by decide +kernel⟩, List.mem_of_getElem? (i := 652) (by decide +kernel), List.mem_of_getElem? (i := 736) (by decide +kernel), List.mem_of_getElem? (i := 737) (by decide +kernel)⟩
theorem lw_p67 : lw_okq (⟨"StringVotesModel", "looks", "(I)V"⟩, 18) := ⟨⟨by decide +kernel, by decide +kernel⟩, List.mem_of_getElem? (i := 652) (by decide +kernel), List.mem_of_getElem? (i := 741) (by decide +kernel), List.mem_of_getElem? (i := 742) (by decide +kernel)⟩
theorem lw_p68 : lw_okq (⟨"StringVotesModel", "isJoined", "(III)Z"⟩, 18) := ⟨⟨by decide +kernel, by decide +kernel⟩, List.mem_of_getElem? (i := 652) (by decide +kernel), List.mem_of_getElem? (i := 745) (by decide +kernel), List.mem_of_getElem? (i := 746) (by decide +kernel)⟩
theorem lw_p69 : lw_okq (⟨"StringVotesModel", "pulled", "(II)I"⟩, 18) := ⟨⟨by decide +kernel, by decide +kernel⟩, List.mem_of_getElem? (i := 652) (by decide +kernel), List.mem_of_getElem? (i := 749) (by decide +kernel), List.mem_of_getElem? (i := 750) (by decide +kernel)⟩
theorem lw_p70 : lw_okq (⟨"StringVotesModel", "of", "(II)I"⟩, 18) := ⟨⟨by decide +kernel, by decide +kernel⟩, List.mem_of_getElem? (i := 652) (by decide +kernel), List.mem_of_getElem? (i := 753) (by decide +kernel), List.mem_of_getElem? (i := 754) (by decide +kernel)⟩
theorem lw_p71 : lw_okq (⟨"StringVotesModel", "changes", "()V"⟩, 18) := ⟨⟨by decide +kernel, by decide +kernel⟩, List.mem_of_getElem? (i := 652) (by decide +kernel), List.mem_of_getElem? (i := 763) (by decide +kernel), List.mem_of_getElem? (i := 764) (by decide +kernel)⟩
theorem lw_p72 : lw_okq (⟨"StringVotesModel", "isString", "(I)Z"⟩, 18) := ⟨⟨by decide +kernel, by decide +kernel⟩, List.mem_of_getElem? (i := 652) (by decide +kernel), List.mem_of_getElem? (i := 776) (by decide +kernel), List.mem_of_getElem? (i := 777) (by decide +kernel)⟩
theorem lw_p73 : lw_okq (⟨"StringVotesModel", "cuts", "(I)V"⟩, 18) := ⟨⟨by decide +kernel, by decide +kernel⟩, List.mem_of_getElem? (i := 652) (by decide +kernel), List.mem_of_getElem? (i := 780) (by decide +kernel), List.mem_of_getElem? (i := 781) (by decide +kernel)⟩
theorem lw_p74 : lw_okq (⟨"StringVotesModel", "ofDeal", "(I)I"⟩, 18) := ⟨⟨by decide +kernel, by decide +kernel⟩, List.mem_of_getElem? (i := 652) (by decide +kernel), List.mem_of_getElem? (i := 788) (by decide +kernel), List.mem_of_getElem? (i := 789) (by decide +kernel)⟩
theorem lw_p75 : lw_okq (⟨"StringVotesModel", "barred", "(II)I"⟩, 18) := ⟨⟨by decide +kernel, by decide +kernel⟩, List.mem_of_getElem? (i := 652) (by decide +kernel), List.mem_of_getElem? (i := 796) (by decide +kernel), List.mem_of_getElem? (i := 797) (by decide +kernel)⟩
theorem lw_p76 : lw_okq (⟨"StringVotesModel", "manyPulled", "(I)I"⟩, 18) := ⟨⟨by decide +kernel, by decide +kernel⟩, List.mem_of_getElem? (i := 652) (by decide +kernel), List.mem_of_getElem? (i := 800) (by decide +kernel), List.mem_of_getElem? (i := 801) (by decide +kernel)⟩
theorem lw_p77 : lw_okq (⟨"StringVotesModel", "yesNow", "()I"⟩, 18) := ⟨⟨by decide +kernel, by decide +kernel⟩, List.mem_of_getElem? (i := 652) (by decide +kernel), List.mem_of_getElem? (i := 808) (by decide +kernel), List.mem_of_getElem? (i := 809) (by decide +kernel)⟩
theorem lw_p78 : lw_okq (⟨"StringVotesModel", "votes", "()I"⟩, 18) := ⟨⟨by decide +kernel, by decide +kernel⟩, List.mem_of_getElem? (i := 652) (by decide +kernel), List.mem_of_getElem? (i := 812) (by decide +kernel), List.mem_of_getElem? (i := 813) (by decide +kernel)⟩
theorem lw_p79 : lw_okq (⟨"StringVotesModel", "byLeanings", "(I)I"⟩, 18) := ⟨⟨by decide +kernel, by decide +kernel⟩, List.mem_of_getElem? (i := 652) (by decide +kernel), List.mem_of_getElem? (i := 816) (by decide +kernel), List.mem_of_getElem? (i := 817) (by decide +kernel)⟩
def lw_privs_5 : List (MethodName × Nat) := [(⟨"StringVotesModel", "refused", "(III)I"⟩, 18), (⟨"StringVotesModel", "stringOfBoth", "(II)I"⟩, 18), (⟨"StringVotesModel", "tied", "(II)I"⟩, 18), (⟨"StringVotesModel", "looks", "(I)V"⟩, 18), (⟨"StringVotesModel", "isJoined", "(III)Z"⟩, 18), (⟨"StringVotesModel", "pulled", "(II)I"⟩, 18), (⟨"StringVotesModel", "of", "(II)I"⟩, 18), (⟨"StringVotesModel", "changes", "()V"⟩, 18), (⟨"StringVotesModel", "isString", "(I)Z"⟩, 18), (⟨"StringVotesModel", "cuts", "(I)V"⟩, 18), (⟨"StringVotesModel", "ofDeal", "(I)I"⟩, 18), (⟨"StringVotesModel", "barred", "(II)I"⟩, 18), (⟨"StringVotesModel", "manyPulled", "(I)I"⟩, 18), (⟨"StringVotesModel", "yesNow", "()I"⟩, 18), (⟨"StringVotesModel", "votes", "()I"⟩, 18), (⟨"StringVotesModel", "byLeanings", "(I)I"⟩, 18)]
theorem lw_r5 : ∀ q ∈ lw_privs_5, lw_okq q := List.forall_mem_cons.mpr ⟨lw_p64, List.forall_mem_cons.mpr ⟨lw_p65, List.forall_mem_cons.mpr ⟨lw_p66, List.forall_mem_cons.mpr ⟨lw_p67, List.forall_mem_cons.mpr ⟨lw_p68, List.forall_mem_cons.mpr ⟨lw_p69, List.forall_mem_cons.mpr ⟨lw_p70, List.forall_mem_cons.mpr ⟨lw_p71, List.forall_mem_cons.mpr ⟨lw_p72, List.forall_mem_cons.mpr ⟨lw_p73, List.forall_mem_cons.mpr ⟨lw_p74, List.forall_mem_cons.mpr ⟨lw_p75, List.forall_mem_cons.mpr ⟨lw_p76, List.forall_mem_cons.mpr ⟨lw_p77, List.forall_mem_cons.mpr ⟨lw_p78, List.forall_mem_cons.mpr ⟨lw_p79, fun _ h => absurd h List.not_mem_nil⟩⟩⟩⟩⟩⟩⟩⟩⟩⟩⟩⟩⟩⟩⟩⟩
theorem lw_p80 : lw_okq (⟨"StringVotesModel", "isPassed", "()Z"⟩, 18) := ⟨⟨by decide +kernel, by decide +kernel⟩, List.mem_of_getElem? (i := 652) (by decide +kernel), List.mem_of_getElem? (i := 828) (by decide +kernel), List.mem_of_getElem? (i := 829) (by decide +kernel)⟩
theorem lw_p81 : lw_okq (⟨"StringVotesModel", "seats", "()I"⟩, 18) := ⟨⟨by decide +kernel, by decide +kernel⟩, List.mem_of_getElem? (i := 652) (by decide +kernel), List.mem_of_getElem? (i := 832) (by decide +kernel), List.mem_of_getElem? (i := 833) (by decide +kernel)⟩
theorem lw_p82 : lw_okq (⟨"StringVotesModel", "tiesOf", "(I)I"⟩, 18) := ⟨⟨by decide +kernel, by decide +kernel⟩, List.mem_of_getElem? (i := 652) (by decide +kernel), List.mem_of_getElem? (i := 844) (by decide +kernel), List.mem_of_getElem? (i := 845) (by decide +kernel)⟩
theorem lw_p83 : lw_okq (⟨"StringVotesModel", "groupOf", "(I)I"⟩, 18) := ⟨⟨by decide +kernel, by decide +kernel⟩, List.mem_of_getElem? (i := 652) (by decide +kernel), List.mem_of_getElem? (i := 848) (by decide +kernel), List.mem_of_getElem? (i := 849) (by decide +kernel)⟩
theorem lw_p84 : lw_okq (⟨"StringVotesModel", "groupSeats", "(I)I"⟩, 18) := ⟨⟨by decide +kernel, by decide +kernel⟩, List.mem_of_getElem? (i := 652) (by decide +kernel), List.mem_of_getElem? (i := 852) (by decide +kernel), List.mem_of_getElem? (i := 853) (by decide +kernel)⟩
theorem lw_p85 : lw_okq (⟨"StringVotesModel", "reached", "(I)I"⟩, 18) := ⟨⟨by decide +kernel, by decide +kernel⟩, List.mem_of_getElem? (i := 652) (by decide +kernel), List.mem_of_getElem? (i := 864) (by decide +kernel), List.mem_of_getElem? (i := 865) (by decide +kernel)⟩
theorem lw_p86 : lw_okq (⟨"StringVotesModel", "yesWith", "(II)I"⟩, 18) := ⟨⟨by decide +kernel, by decide +kernel⟩, List.mem_of_getElem? (i := 652) (by decide +kernel), List.mem_of_getElem? (i := 876) (by decide +kernel), List.mem_of_getElem? (i := 877) (by decide +kernel)⟩
theorem lw_p87 : lw_okq (⟨"StringVotesModel", "gains", "()I"⟩, 18) := ⟨⟨by decide +kernel, by decide +kernel⟩, List.mem_of_getElem? (i := 652) (by decide +kernel), List.mem_of_getElem? (i := 884) (by decide +kernel), List.mem_of_getElem? (i := 885) (by decide +kernel)⟩
theorem lw_p88 : lw_okq (⟨"StringVotesModel", "greedy", "(II)I"⟩, 18) := ⟨⟨by decide +kernel, by decide +kernel⟩, List.mem_of_getElem? (i := 652) (by decide +kernel), List.mem_of_getElem? (i := 888) (by decide +kernel), List.mem_of_getElem? (i := 889) (by decide +kernel)⟩
theorem lw_p89 : lw_okq (⟨"StringVotesModel", "bySets", "(II)I"⟩, 18) := ⟨⟨by decide +kernel, by decide +kernel⟩, List.mem_of_getElem? (i := 652) (by decide +kernel), List.mem_of_getElem? (i := 892) (by decide +kernel), List.mem_of_getElem? (i := 893) (by decide +kernel)⟩
theorem lw_p90 : lw_okq (⟨"StringVotesModel", "groups", "()I"⟩, 18) := ⟨⟨by decide +kernel, by decide +kernel⟩, List.mem_of_getElem? (i := 652) (by decide +kernel), List.mem_of_getElem? (i := 900) (by decide +kernel), List.mem_of_getElem? (i := 901) (by decide +kernel)⟩
theorem lw_p91 : lw_okq (⟨"StringVotesModel", "walked", "()I"⟩, 18) := ⟨⟨by decide +kernel, by decide +kernel⟩, List.mem_of_getElem? (i := 652) (by decide +kernel), List.mem_of_getElem? (i := 922) (by decide +kernel), List.mem_of_getElem? (i := 923) (by decide +kernel)⟩
theorem lw_p92 : lw_okq (⟨"StringVotesModel", "pulledSet", "()I"⟩, 18) := ⟨⟨by decide +kernel, by decide +kernel⟩, List.mem_of_getElem? (i := 652) (by decide +kernel), List.mem_of_getElem? (i := 926) (by decide +kernel), List.mem_of_getElem? (i := 927) (by decide +kernel)⟩
theorem lw_p93 : lw_okq (⟨"StringVotesModel", "plays", "()Z"⟩, 18) := ⟨⟨by decide +kernel, by decide +kernel⟩, List.mem_of_getElem? (i := 652) (by decide +kernel), List.mem_of_getElem? (i := 949) (by decide +kernel), List.mem_of_getElem? (i := 950) (by decide +kernel)⟩
theorem lw_p94 : lw_okq (⟨"StringVotesModel", "parses", "()Z"⟩, 18) := ⟨⟨by decide +kernel, by decide +kernel⟩, List.mem_of_getElem? (i := 652) (by decide +kernel), List.mem_of_getElem? (i := 953) (by decide +kernel), List.mem_of_getElem? (i := 954) (by decide +kernel)⟩
theorem lw_p95 : lw_okq (⟨"StringVotesModel", "isAt", "(II)Z"⟩, 18) := ⟨⟨by decide +kernel, by decide +kernel⟩, List.mem_of_getElem? (i := 652) (by decide +kernel), List.mem_of_getElem? (i := 957) (by decide +kernel), List.mem_of_getElem? (i := 958) (by decide +kernel)⟩
def lw_privs_6 : List (MethodName × Nat) := [(⟨"StringVotesModel", "isPassed", "()Z"⟩, 18), (⟨"StringVotesModel", "seats", "()I"⟩, 18), (⟨"StringVotesModel", "tiesOf", "(I)I"⟩, 18), (⟨"StringVotesModel", "groupOf", "(I)I"⟩, 18), (⟨"StringVotesModel", "groupSeats", "(I)I"⟩, 18), (⟨"StringVotesModel", "reached", "(I)I"⟩, 18), (⟨"StringVotesModel", "yesWith", "(II)I"⟩, 18), (⟨"StringVotesModel", "gains", "()I"⟩, 18), (⟨"StringVotesModel", "greedy", "(II)I"⟩, 18), (⟨"StringVotesModel", "bySets", "(II)I"⟩, 18), (⟨"StringVotesModel", "groups", "()I"⟩, 18), (⟨"StringVotesModel", "walked", "()I"⟩, 18), (⟨"StringVotesModel", "pulledSet", "()I"⟩, 18), (⟨"StringVotesModel", "plays", "()Z"⟩, 18), (⟨"StringVotesModel", "parses", "()Z"⟩, 18), (⟨"StringVotesModel", "isAt", "(II)Z"⟩, 18)]
theorem lw_r6 : ∀ q ∈ lw_privs_6, lw_okq q := List.forall_mem_cons.mpr ⟨lw_p80, List.forall_mem_cons.mpr ⟨lw_p81, List.forall_mem_cons.mpr ⟨lw_p82, List.forall_mem_cons.mpr ⟨lw_p83, List.forall_mem_cons.mpr ⟨lw_p84, List.forall_mem_cons.mpr ⟨lw_p85, List.forall_mem_cons.mpr ⟨lw_p86, List.forall_mem_cons.mpr ⟨lw_p87, List.forall_mem_cons.mpr ⟨lw_p88, List.forall_mem_cons.mpr ⟨lw_p89, List.forall_mem_cons.mpr ⟨lw_p90, List.forall_mem_cons.mpr ⟨lw_p91, List.forall_mem_cons.mpr ⟨lw_p92, List.forall_mem_cons.mpr ⟨lw_p93, List.forall_mem_cons.mpr ⟨lw_p94, List.forall_mem_cons.mpr ⟨lw_p95, fun _ h => absurd h List.not_mem_nil⟩⟩⟩⟩⟩⟩⟩⟩⟩⟩⟩⟩⟩⟩⟩⟩
theorem lw_p96 : lw_okq (⟨"StringVotesModel", "numbered", "(I)Z"⟩, 18) := ⟨⟨by decide +kernel, by decide +kernel⟩, List.mem_of_getElem? (i := 652) (by decide +kernel), List.mem_of_getElem? (i := 964) (by decide +kernel), List.mem_of_getElem? (i := 965) (by decide +kernel)⟩
theorem lw_p97 : lw_okq (⟨"StringVotesModel", "sign", "(I)Z"⟩, 18) := ⟨⟨by decide +kernel, by decide +kernel⟩, List.mem_of_getElem? (i := 652) (by decide +kernel), List.mem_of_getElem? (i := 968) (by decide +kernel), List.mem_of_getElem? (i := 969) (by decide +kernel)⟩
theorem lw_p98 : lw_okq (⟨"StringVotesModel", "does", "()I"⟩, 18) := ⟨⟨by decide +kernel, by decide +kernel⟩, List.mem_of_getElem? (i := 652) (by decide +kernel), List.mem_of_getElem? (i := 972) (by decide +kernel), List.mem_of_getElem? (i := 973) (by decide +kernel)⟩
def lw_privs_7 : List (MethodName × Nat) := [(⟨"StringVotesModel", "numbered", "(I)Z"⟩, 18), (⟨"StringVotesModel", "sign", "(I)Z"⟩, 18), (⟨"StringVotesModel", "does", "()I"⟩, 18)]
theorem lw_r7 : ∀ q ∈ lw_privs_7, lw_okq q := List.forall_mem_cons.mpr ⟨lw_p96, List.forall_mem_cons.mpr ⟨lw_p97, List.forall_mem_cons.mpr ⟨lw_p98, fun _ h => absurd h List.not_mem_nil⟩⟩⟩
def lw_privs : List (MethodName × Nat) := lw_privs_1 ++ (lw_privs_2 ++ (lw_privs_3 ++ (lw_privs_4 ++ (lw_privs_5 ++ (lw_privs_6 ++ (lw_privs_7))))))
def lw_tbl : List Cond := k2_sels lw_privs ++ tables_1
theorem lw_privs_ok : ∀ q ∈ lw_privs, lw_okq q := by
  show ∀ q ∈ lw_privs_1 ++ (lw_privs_2 ++ (lw_privs_3 ++ (lw_privs_4 ++ (lw_privs_5 ++ (lw_privs_6 ++ (lw_privs_7)))))), lw_okq q
  exact List.forall_mem_append.mpr ⟨lw_r1, List.forall_mem_append.mpr ⟨lw_r2, List.forall_mem_append.mpr ⟨lw_r3, List.forall_mem_append.mpr ⟨lw_r4, List.forall_mem_append.mpr ⟨lw_r5, List.forall_mem_append.mpr ⟨lw_r6, lw_r7⟩⟩⟩⟩⟩⟩
/-- the streams that the claim lets the run draw from -/
abbrev lw_cs : List Choice := [Jvm.Choice.named "NaN.bits"]
theorem lw_bits : nanBits ∈ lw_cs := by first | decide | exact List.mem_cons_self | simp [lw_cs, nanBits]
-- ===== end of PART A; then your names; then what follows =====
def RX0 : String := "StringVotes$Book"
def TX0 : u_T := fun k => match k with
  | 0 => ("StringVotes$Book", "entries", "LStringVotes$Row;", true)
  | 1 => ("StringVotes$Book", "sessions", "I", false)
  | _ => ("StringVotes$Book", "passed", "I", false)
def tyX0 : Nat → FieldType := fun k => match k with
  | 0 => .object "StringVotes$Row"
  | 1 => .int
  | _ => .int
abbrev wsX00 : List Cond := u_ws RX0 TX0 3
theorem nmX0 : ∀ a, a < 3 → ∀ b, b < 3 → a ≠ b → (TX0 a).2.1 ≠ (TX0 b).2.1 := by decide +kernel
theorem tyX0_ok : ∀ k, k < 3 → parseFieldDescriptor (TX0 k).2.2.1 = some (tyX0 k) := by decide +kernel
abbrev cX0_init : ByteArray := prog_2_method_1_code
def yX0_init : MethodName := ⟨RX0, "<init>", "()V"⟩
abbrev cX0_copyFrom : ByteArray := prog_2_method_2_code
def yX0_copyFrom : MethodName := ⟨RX0, "copyFrom", "(LStringVotes$Book;)V"⟩
abbrev cX0_kept : ByteArray := prog_2_method_3_code
def yX0_kept : MethodName := ⟨RX0, "kept", "()I"⟩
abbrev cX0_entry : ByteArray := prog_2_method_4_code
def yX0_entry : MethodName := ⟨RX0, "entry", "(II)I"⟩
abbrev cX0_enter : ByteArray := prog_2_method_5_code
def yX0_enter : MethodName := ⟨RX0, "enter", "(IIII)V"⟩
def RX1 : String := "StringVotes$Parliament"
def TX1 : u_T := fun k => match k with
  | 0 => ("StringVotes$Parliament", "seats", "LStringVotes$Row;", true)
  | 1 => ("StringVotes$Parliament", "leaning", "LStringVotes$Row;", true)
  | 2 => ("StringVotes$Parliament", "pulled", "LStringVotes$Row;", true)
  | 3 => ("StringVotes$Parliament", "lowest", "LStringVotes$Row;", true)
  | 4 => ("StringVotes$Parliament", "side", "LStringVotes$Row;", true)
  | 5 => ("StringVotes$Parliament", "vote", "LStringVotes$Row;", true)
  | 6 => ("StringVotes$Parliament", "strings", "LStringVotes$Strings;", true)
  | 7 => ("StringVotes$Parliament", "book", "LStringVotes$Book;", true)
  | 8 => ("StringVotes$Parliament", "puppets", "I", false)
  | 9 => ("StringVotes$Parliament", "speaker", "I", false)
  | 10 => ("StringVotes$Parliament", "pullsBound", "I", false)
  | 11 => ("StringVotes$Parliament", "allSeats", "I", false)
  | _ => ("StringVotes$Parliament", "yesSeats", "I", false)
def tyX1 : Nat → FieldType := fun k => match k with
  | 0 => .object "StringVotes$Row"
  | 1 => .object "StringVotes$Row"
  | 2 => .object "StringVotes$Row"
  | 3 => .object "StringVotes$Row"
  | 4 => .object "StringVotes$Row"
  | 5 => .object "StringVotes$Row"
  | 6 => .object "StringVotes$Strings"
  | 7 => .object "StringVotes$Book"
  | 8 => .int
  | 9 => .int
  | 10 => .int
  | 11 => .int
  | _ => .int
abbrev wsX10 : List Cond := u_ws RX1 TX1 13
theorem nmX1 : ∀ a, a < 13 → ∀ b, b < 13 → a ≠ b → (TX1 a).2.1 ≠ (TX1 b).2.1 := by decide +kernel
theorem tyX1_ok : ∀ k, k < 13 → parseFieldDescriptor (TX1 k).2.2.1 = some (tyX1 k) := by decide +kernel
abbrev cX1_init : ByteArray := prog_3_method_1_code
def yX1_init : MethodName := ⟨RX1, "<init>", "()V"⟩
abbrev cX1_copyFrom : ByteArray := prog_3_method_2_code
def yX1_copyFrom : MethodName := ⟨RX1, "copyFrom", "(LStringVotes$Parliament;)V"⟩
abbrev cX1_addPuppet : ByteArray := prog_3_method_3_code
def yX1_addPuppet : MethodName := ⟨RX1, "addPuppet", "(II)I"⟩
abbrev cX1_addString : ByteArray := prog_3_method_4_code
def yX1_addString : MethodName := ⟨RX1, "addString", "(IIII)I"⟩
abbrev cX1_cutString : ByteArray := prog_3_method_5_code
def yX1_cutString : MethodName := ⟨RX1, "cutString", "(I)I"⟩
abbrev cX1_cutStringsOf : ByteArray := prog_3_method_6_code
def yX1_cutStringsOf : MethodName := ⟨RX1, "cutStringsOf", "(I)I"⟩
abbrev cX1_pullTo : ByteArray := prog_3_method_7_code
def yX1_pullTo : MethodName := ⟨RX1, "pullTo", "(II)I"⟩
abbrev cX1_letGo : ByteArray := prog_3_method_8_code
def yX1_letGo : MethodName := ⟨RX1, "letGo", "(I)I"⟩
abbrev cX1_holdSession : ByteArray := prog_3_method_9_code
def yX1_holdSession : MethodName := ⟨RX1, "holdSession", "()I"⟩
abbrev cX1_bindPulls : ByteArray := prog_3_method_10_code
def yX1_bindPulls : MethodName := ⟨RX1, "bindPulls", "(I)I"⟩
abbrev cX1_tellGroups : ByteArray := prog_3_method_11_code
def yX1_tellGroups : MethodName := ⟨RX1, "tellGroups", "()V"⟩
abbrev cX1_joinBy : ByteArray := prog_3_method_12_code
def yX1_joinBy : MethodName := ⟨RX1, "joinBy", "(I)V"⟩
abbrev cX1_tellVotes : ByteArray := prog_3_method_13_code
def yX1_tellVotes : MethodName := ⟨RX1, "tellVotes", "()V"⟩
abbrev cX1_leadingVote : ByteArray := prog_3_method_14_code
def yX1_leadingVote : MethodName := ⟨RX1, "leadingVote", "(I)I"⟩
abbrev cX1_pulledVote : ByteArray := prog_3_method_15_code
def yX1_pulledVote : MethodName := ⟨RX1, "pulledVote", "(I)I"⟩
abbrev cX1_hasPuppet : ByteArray := prog_3_method_16_code
def yX1_hasPuppet : MethodName := ⟨RX1, "hasPuppet", "(I)Z"⟩
abbrev cX1_arePair : ByteArray := prog_3_method_17_code
def yX1_arePair : MethodName := ⟨RX1, "arePair", "(II)Z"⟩
abbrev cX1_isPulled : ByteArray := prog_3_method_18_code
def yX1_isPulled : MethodName := ⟨RX1, "isPulled", "(I)Z"⟩
abbrev cX1_hangTogether : ByteArray := prog_3_method_19_code
def yX1_hangTogether : MethodName := ⟨RX1, "hangTogether", "(II)Z"⟩
abbrev cX1_reasonAgainstString : ByteArray := prog_3_method_20_code
def yX1_reasonAgainstString : MethodName := ⟨RX1, "reasonAgainstString", "(III)I"⟩
abbrev cX1_reasonAgainstPull : ByteArray := prog_3_method_21_code
def yX1_reasonAgainstPull : MethodName := ⟨RX1, "reasonAgainstPull", "(II)I"⟩
abbrev cX1_wouldPass : ByteArray := prog_3_method_22_code
def yX1_wouldPass : MethodName := ⟨RX1, "wouldPass", "()I"⟩
abbrev cX1_seatsIn : ByteArray := prog_3_method_23_code
def yX1_seatsIn : MethodName := ⟨RX1, "seatsIn", "(I)I"⟩
abbrev cX1_yesVoters : ByteArray := prog_3_method_24_code
def yX1_yesVoters : MethodName := ⟨RX1, "yesVoters", "()I"⟩
abbrev cX1_pulledPuppets : ByteArray := prog_3_method_25_code
def yX1_pulledPuppets : MethodName := ⟨RX1, "pulledPuppets", "()I"⟩
abbrev cX1_membersOf : ByteArray := prog_3_method_26_code
def yX1_membersOf : MethodName := ⟨RX1, "membersOf", "(I)I"⟩
abbrev cX1_groupsByJoining : ByteArray := prog_3_method_27_code
def yX1_groupsByJoining : MethodName := ⟨RX1, "groupsByJoining", "()I"⟩
abbrev cX1_groupsByWalking : ByteArray := prog_3_method_28_code
def yX1_groupsByWalking : MethodName := ⟨RX1, "groupsByWalking", "()I"⟩
abbrev cX1_walkFrom : ByteArray := prog_3_method_29_code
def yX1_walkFrom : MethodName := ⟨RX1, "walkFrom", "(I)I"⟩
def RX2 : String := "StringVotes$Row"
def TX2 : u_T := fun k => match k with
  | _ => ("StringVotes$Row", "cells", "[I", true)
def tyX2 : Nat → FieldType := fun k => match k with
  | _ => .array .int
abbrev wsX20 : List Cond := u_ws RX2 TX2 1
theorem nmX2 : ∀ a, a < 1 → ∀ b, b < 1 → a ≠ b → (TX2 a).2.1 ≠ (TX2 b).2.1 := by decide +kernel
theorem tyX2_ok : ∀ k, k < 1 → parseFieldDescriptor (TX2 k).2.2.1 = some (tyX2 k) := by decide +kernel
abbrev cX2_init : ByteArray := prog_4_method_1_code
def yX2_init : MethodName := ⟨RX2, "<init>", "(I)V"⟩
abbrev cX2_get : ByteArray := prog_4_method_2_code
def yX2_get : MethodName := ⟨RX2, "get", "(I)I"⟩
abbrev cX2_put : ByteArray := prog_4_method_3_code
def yX2_put : MethodName := ⟨RX2, "put", "(II)V"⟩
abbrev cX2_copyFrom : ByteArray := prog_4_method_4_code
def yX2_copyFrom : MethodName := ⟨RX2, "copyFrom", "(LStringVotes$Row;)V"⟩
abbrev cX2_removeAt : ByteArray := prog_4_method_5_code
def yX2_removeAt : MethodName := ⟨RX2, "removeAt", "(I)V"⟩
def RX3 : String := "StringVotes$Strings"
def TX3 : u_T := fun k => match k with
  | 0 => ("StringVotes$Strings", "lower", "LStringVotes$Row;", true)
  | 1 => ("StringVotes$Strings", "upper", "LStringVotes$Row;", true)
  | 2 => ("StringVotes$Strings", "unlike", "LStringVotes$Row;", true)
  | 3 => ("StringVotes$Strings", "deal", "LStringVotes$Row;", true)
  | 4 => ("StringVotes$Strings", "size", "I", false)
  | _ => ("StringVotes$Strings", "cuts", "I", false)
def tyX3 : Nat → FieldType := fun k => match k with
  | 0 => .object "StringVotes$Row"
  | 1 => .object "StringVotes$Row"
  | 2 => .object "StringVotes$Row"
  | 3 => .object "StringVotes$Row"
  | 4 => .int
  | _ => .int
abbrev wsX30 : List Cond := u_ws RX3 TX3 6
theorem nmX3 : ∀ a, a < 6 → ∀ b, b < 6 → a ≠ b → (TX3 a).2.1 ≠ (TX3 b).2.1 := by decide +kernel
theorem tyX3_ok : ∀ k, k < 6 → parseFieldDescriptor (TX3 k).2.2.1 = some (tyX3 k) := by decide +kernel
abbrev cX3_init : ByteArray := prog_5_method_1_code
def yX3_init : MethodName := ⟨RX3, "<init>", "()V"⟩
abbrev cX3_copyFrom : ByteArray := prog_5_method_2_code
def yX3_copyFrom : MethodName := ⟨RX3, "copyFrom", "(LStringVotes$Strings;)V"⟩
abbrev cX3_has : ByteArray := prog_5_method_3_code
def yX3_has : MethodName := ⟨RX3, "has", "(I)Z"⟩
abbrev cX3_append : ByteArray := prog_5_method_4_code
def yX3_append : MethodName := ⟨RX3, "append", "(IIII)I"⟩
abbrev cX3_removeAt : ByteArray := prog_5_method_5_code
def yX3_removeAt : MethodName := ⟨RX3, "removeAt", "(I)V"⟩
abbrev cX3_removeAllOf : ByteArray := prog_5_method_6_code
def yX3_removeAllOf : MethodName := ⟨RX3, "removeAllOf", "(I)I"⟩
abbrev cX3_areTied : ByteArray := prog_5_method_7_code
def yX3_areTied : MethodName := ⟨RX3, "areTied", "(II)Z"⟩
abbrev cX3_howManyAt : ByteArray := prog_5_method_8_code
def yX3_howManyAt : MethodName := ⟨RX3, "howManyAt", "(I)I"⟩
abbrev cX3_oneStringFurther : ByteArray := prog_5_method_9_code
def yX3_oneStringFurther : MethodName := ⟨RX3, "oneStringFurther", "(I)I"⟩
def RX4 : String := "StringVotes$Text"
def TX4 : u_T := fun k => match k with
  | 0 => ("StringVotes$Text", "characters", "LStringVotes$Row;", true)
  | 1 => ("StringVotes$Text", "length", "I", false)
  | 2 => ("StringVotes$Text", "letter", "I", false)
  | 3 => ("StringVotes$Text", "numbers", "LStringVotes$Row;", true)
  | _ => ("StringVotes$Text", "place", "I", false)
def tyX4 : Nat → FieldType := fun k => match k with
  | 0 => .object "StringVotes$Row"
  | 1 => .int
  | 2 => .int
  | 3 => .object "StringVotes$Row"
  | _ => .int
abbrev wsX40 : List Cond := u_ws RX4 TX4 5
theorem nmX4 : ∀ a, a < 5 → ∀ b, b < 5 → a ≠ b → (TX4 a).2.1 ≠ (TX4 b).2.1 := by decide +kernel
theorem tyX4_ok : ∀ k, k < 5 → parseFieldDescriptor (TX4 k).2.2.1 = some (tyX4 k) := by decide +kernel
abbrev cX4_init : ByteArray := prog_6_method_1_code
def yX4_init : MethodName := ⟨RX4, "<init>", "()V"⟩
abbrev cX4_append : ByteArray := prog_6_method_2_code
def yX4_append : MethodName := ⟨RX4, "append", "(I)Z"⟩
abbrev cX4_current : ByteArray := prog_6_method_3_code
def yX4_current : MethodName := ⟨RX4, "current", "()I"⟩
abbrev cX4_readOrder : ByteArray := prog_6_method_4_code
def yX4_readOrder : MethodName := ⟨RX4, "readOrder", "(I)Z"⟩
abbrev cX4_numbersBehind : ByteArray := prog_6_method_5_code
def yX4_numbersBehind : MethodName := ⟨RX4, "numbersBehind", "(I)I"⟩
abbrev cX4_skip : ByteArray := prog_6_method_6_code
def yX4_skip : MethodName := ⟨RX4, "skip", "(I)Z"⟩
abbrev cX4_readNumber : ByteArray := prog_6_method_7_code
def yX4_readNumber : MethodName := ⟨RX4, "readNumber", "(I)Z"⟩
abbrev cX4_isDigit : ByteArray := prog_6_method_8_code
def yX4_isDigit : MethodName := ⟨RX4, "isDigit", "(I)Z"⟩
def RX5 : String := "StringVotes$Turns"
def TX5 : u_T := fun k => match k with
  | 0 => ("StringVotes$Turns", "gains", "LStringVotes$Row;", true)
  | 1 => ("StringVotes$Turns", "groups", "I", false)
  | _ => ("StringVotes$Turns", "ahead", "I", false)
def tyX5 : Nat → FieldType := fun k => match k with
  | 0 => .object "StringVotes$Row"
  | 1 => .int
  | _ => .int
abbrev wsX50 : List Cond := u_ws RX5 TX5 3
theorem nmX5 : ∀ a, a < 3 → ∀ b, b < 3 → a ≠ b → (TX5 a).2.1 ≠ (TX5 b).2.1 := by decide +kernel
theorem tyX5_ok : ∀ k, k < 3 → parseFieldDescriptor (TX5 k).2.2.1 = some (tyX5 k) := by decide +kernel
abbrev cX5_init : ByteArray := prog_7_method_1_code
def yX5_init : MethodName := ⟨RX5, "<init>", "()V"⟩
abbrev cX5_collect : ByteArray := prog_7_method_2_code
def yX5_collect : MethodName := ⟨RX5, "collect", "(LStringVotes$Parliament;)V"⟩
abbrev cX5_fewestByTheBest : ByteArray := prog_7_method_3_code
def yX5_fewestByTheBest : MethodName := ⟨RX5, "fewestByTheBest", "()I"⟩
abbrev cX5_bestBut : ByteArray := prog_7_method_4_code
def yX5_bestBut : MethodName := ⟨RX5, "bestBut", "(I)I"⟩
abbrev cX5_fewestOfAllSets : ByteArray := prog_7_method_5_code
def yX5_fewestOfAllSets : MethodName := ⟨RX5, "fewestOfAllSets", "()I"⟩
abbrev cX5_stepTo : ByteArray := prog_7_method_6_code
def yX5_stepTo : MethodName := ⟨RX5, "stepTo", "(I)I"⟩
def RX6 : String := "StringVotes"
def TX6 : u_T := fun k => match k with
  | 0 => ("StringVotes", "now", "LStringVotes$Parliament;", true)
  | 1 => ("StringVotes", "trial", "LStringVotes$Parliament;", true)
  | 2 => ("StringVotes", "past", "[LStringVotes$Parliament;", true)
  | 3 => ("StringVotes", "oldestSlot", "I", false)
  | 4 => ("StringVotes", "states", "I", false)
  | 5 => ("StringVotes", "turns", "LStringVotes$Turns;", true)
  | 6 => ("StringVotes", "text", "LStringVotes$Text;", true)
  | 7 => ("StringVotes", "ordersDone", "I", false)
  | 8 => ("StringVotes", "faultPosition", "I", false)
  | 9 => ("StringVotes", "faultReason", "I", false)
  | _ => ("StringVotes", "faultCause", "I", false)
def tyX6 : Nat → FieldType := fun k => match k with
  | 0 => .object "StringVotes$Parliament"
  | 1 => .object "StringVotes$Parliament"
  | 2 => .array (.object "StringVotes$Parliament")
  | 3 => .int
  | 4 => .int
  | 5 => .object "StringVotes$Turns"
  | 6 => .object "StringVotes$Text"
  | 7 => .int
  | 8 => .int
  | 9 => .int
  | _ => .int
abbrev wsX60 : List Cond := u_ws RX6 TX6 11
theorem nmX6 : ∀ a, a < 11 → ∀ b, b < 11 → a ≠ b → (TX6 a).2.1 ≠ (TX6 b).2.1 := by decide +kernel
theorem tyX6_ok : ∀ k, k < 11 → parseFieldDescriptor (TX6 k).2.2.1 = some (tyX6 k) := by decide +kernel
abbrev cX6_init : ByteArray := prog_1_method_1_code
def yX6_init : MethodName := ⟨RX6, "<init>", "()V"⟩
abbrev cX6_puppet : ByteArray := prog_1_method_2_code
def yX6_puppet : MethodName := ⟨RX6, "puppet", "(II)I"⟩
abbrev cX6_tie : ByteArray := prog_1_method_3_code
def yX6_tie : MethodName := ⟨RX6, "tie", "(IIZI)I"⟩
abbrev cX6_cut : ByteArray := prog_1_method_4_code
def yX6_cut : MethodName := ⟨RX6, "cut", "(I)I"⟩
abbrev cX6_cutDeal : ByteArray := prog_1_method_5_code
def yX6_cutDeal : MethodName := ⟨RX6, "cutDeal", "(I)I"⟩
abbrev cX6_pull : ByteArray := prog_1_method_6_code
def yX6_pull : MethodName := ⟨RX6, "pull", "(II)I"⟩
abbrev cX6_release : ByteArray := prog_1_method_7_code
def yX6_release : MethodName := ⟨RX6, "release", "(I)I"⟩
abbrev cX6_session : ByteArray := prog_1_method_8_code
def yX6_session : MethodName := ⟨RX6, "session", "()I"⟩
abbrev cX6_set : ByteArray := prog_1_method_9_code
def yX6_set : MethodName := ⟨RX6, "set", "(II)I"⟩
abbrev cX6_puppetOf : ByteArray := prog_1_method_10_code
def yX6_puppetOf : MethodName := ⟨RX6, "puppetOf", "(II)I"⟩
abbrev cX6_stringOf : ByteArray := prog_1_method_11_code
def yX6_stringOf : MethodName := ⟨RX6, "stringOf", "(II)I"⟩
abbrev cX6_hangTogetherWithout : ByteArray := prog_1_method_12_code
def yX6_hangTogetherWithout : MethodName := ⟨RX6, "hangTogetherWithout", "(I)Z"⟩
abbrev cX6_between : ByteArray := prog_1_method_13_code
def yX6_between : MethodName := ⟨RX6, "between", "(II)I"⟩
abbrev cX6_book : ByteArray := prog_1_method_14_code
def yX6_book : MethodName := ⟨RX6, "book", "(II)I"⟩
abbrev cX6_whyTie : ByteArray := prog_1_method_15_code
def yX6_whyTie : MethodName := ⟨RX6, "whyTie", "(IIZ)I"⟩
abbrev cX6_whyPull : ByteArray := prog_1_method_16_code
def yX6_whyPull : MethodName := ⟨RX6, "whyPull", "(II)I"⟩
abbrev cX6_bestPull : ByteArray := prog_1_method_17_code
def yX6_bestPull : MethodName := ⟨RX6, "bestPull", "(I)I"⟩
abbrev cX6_seatsIfPulled : ByteArray := prog_1_method_18_code
def yX6_seatsIfPulled : MethodName := ⟨RX6, "seatsIfPulled", "(II)I"⟩
abbrev cX6_fewest : ByteArray := prog_1_method_19_code
def yX6_fewest : MethodName := ⟨RX6, "fewest", "(I)I"⟩
abbrev cX6_ifCut : ByteArray := prog_1_method_20_code
def yX6_ifCut : MethodName := ⟨RX6, "ifCut", "(II)I"⟩
abbrev cX6_share : ByteArray := prog_1_method_21_code
def yX6_share : MethodName := ⟨RX6, "share", "()I"⟩
abbrev cX6_bitsOf : ByteArray := prog_1_method_22_code
def yX6_bitsOf : MethodName := ⟨RX6, "bitsOf", "(F)I"⟩
abbrev cX6_count : ByteArray := prog_1_method_23_code
def yX6_count : MethodName := ⟨RX6, "count", "(I)I"⟩
abbrev cX6_undo : ByteArray := prog_1_method_24_code
def yX6_undo : MethodName := ⟨RX6, "undo", "()I"⟩
abbrev cX6_type : ByteArray := prog_1_method_25_code
def yX6_type : MethodName := ⟨RX6, "type", "(I)I"⟩
abbrev cX6_clearText : ByteArray := prog_1_method_26_code
def yX6_clearText : MethodName := ⟨RX6, "clearText", "()I"⟩
abbrev cX6_fault : ByteArray := prog_1_method_27_code
def yX6_fault : MethodName := ⟨RX6, "fault", "(I)I"⟩
abbrev cX6_play : ByteArray := prog_1_method_28_code
def yX6_play : MethodName := ⟨RX6, "play", "()I"⟩
abbrev cX6_tryOrders : ByteArray := prog_1_method_29_code
def yX6_tryOrders : MethodName := ⟨RX6, "tryOrders", "()Z"⟩
abbrev cX6_foundFault : ByteArray := prog_1_method_30_code
def yX6_foundFault : MethodName := ⟨RX6, "foundFault", "(III)Z"⟩
abbrev cX6_obey : ByteArray := prog_1_method_31_code
def yX6_obey : MethodName := ⟨RX6, "obey", "()I"⟩
abbrev cX6_settle : ByteArray := prog_1_method_32_code
def yX6_settle : MethodName := ⟨RX6, "settle", "(I)I"⟩
abbrev cX6_remember : ByteArray := prog_1_method_33_code
def yX6_remember : MethodName := ⟨RX6, "remember", "()V"⟩
abbrev cX6_pastState : ByteArray := prog_1_method_34_code
def yX6_pastState : MethodName := ⟨RX6, "pastState", "(I)LStringVotes$Parliament;"⟩
abbrev cX6_isError : ByteArray := prog_1_method_35_code
def yX6_isError : MethodName := ⟨RX6, "isError", "(I)Z"⟩
abbrev cX6_isIn : ByteArray := prog_1_method_36_code
def yX6_isIn : MethodName := ⟨RX6, "isIn", "(III)Z"⟩
abbrev cX6_isMember : ByteArray := prog_1_method_37_code
def yX6_isMember : MethodName := ⟨RX6, "isMember", "(II)Z"⟩
def RX7 : String := "StringVotesModel"
def TX7 : u_T := fun k => match k with
  | 0 => ("StringVotesModel", "s", "[I", true)
  | 1 => ("StringVotesModel", "past", "[I", true)
  | 2 => ("StringVotesModel", "held", "[I", true)
  | 3 => ("StringVotesModel", "pasts", "I", false)
  | 4 => ("StringVotesModel", "runs", "Z", false)
  | 5 => ("StringVotesModel", "text", "[I", true)
  | 6 => ("StringVotesModel", "typed", "I", false)
  | 7 => ("StringVotesModel", "low", "[I", true)
  | 8 => ("StringVotesModel", "side", "[I", true)
  | 9 => ("StringVotesModel", "vote", "[I", true)
  | 10 => ("StringVotesModel", "gain", "[I", true)
  | 11 => ("StringVotesModel", "spot", "I", false)
  | 12 => ("StringVotesModel", "from", "I", false)
  | 13 => ("StringVotesModel", "reason", "I", false)
  | 14 => ("StringVotesModel", "cause", "I", false)
  | 15 => ("StringVotesModel", "orders", "I", false)
  | 16 => ("StringVotesModel", "order", "I", false)
  | _ => ("StringVotesModel", "numbers", "[I", true)
def tyX7 : Nat → FieldType := fun k => match k with
  | 0 => .array .int
  | 1 => .array .int
  | 2 => .array .int
  | 3 => .int
  | 4 => .boolean
  | 5 => .array .int
  | 6 => .int
  | 7 => .array .int
  | 8 => .array .int
  | 9 => .array .int
  | 10 => .array .int
  | 11 => .int
  | 12 => .int
  | 13 => .int
  | 14 => .int
  | 15 => .int
  | 16 => .int
  | _ => .array .int
abbrev wsX70 : List Cond := u_ws RX7 TX7 18
theorem nmX7 : ∀ a, a < 18 → ∀ b, b < 18 → a ≠ b → (TX7 a).2.1 ≠ (TX7 b).2.1 := by decide +kernel
theorem tyX7_ok : ∀ k, k < 18 → parseFieldDescriptor (TX7 k).2.2.1 = some (tyX7 k) := by decide +kernel
abbrev cX7_init : ByteArray := prog_9_method_1_code
def yX7_init : MethodName := ⟨RX7, "<init>", "()V"⟩
abbrev cX7_in : ByteArray := prog_9_method_3_code
def yX7_in : MethodName := ⟨RX7, "in", "(III)Z"⟩
abbrev cX7_copies : ByteArray := prog_9_method_4_code
def yX7_copies : MethodName := ⟨RX7, "copies", "([I[I)V"⟩
abbrev cX7_changes : ByteArray := prog_9_method_5_code
def yX7_changes : MethodName := ⟨RX7, "changes", "()V"⟩
abbrev cX7_of : ByteArray := prog_9_method_6_code
def yX7_of : MethodName := ⟨RX7, "of", "(II)I"⟩
abbrev cX7_tied : ByteArray := prog_9_method_7_code
def yX7_tied : MethodName := ⟨RX7, "tied", "(II)I"⟩
abbrev cX7_isPuppet : ByteArray := prog_9_method_8_code
def yX7_isPuppet : MethodName := ⟨RX7, "isPuppet", "(I)Z"⟩
abbrev cX7_isString : ByteArray := prog_9_method_9_code
def yX7_isString : MethodName := ⟨RX7, "isString", "(I)Z"⟩
abbrev cX7_isPair : ByteArray := prog_9_method_10_code
def yX7_isPair : MethodName := ⟨RX7, "isPair", "(II)Z"⟩
abbrev cX7_looks : ByteArray := prog_9_method_11_code
def yX7_looks : MethodName := ⟨RX7, "looks", "(I)V"⟩
abbrev cX7_isJoined : ByteArray := prog_9_method_12_code
def yX7_isJoined : MethodName := ⟨RX7, "isJoined", "(III)Z"⟩
abbrev cX7_pulled : ByteArray := prog_9_method_13_code
def yX7_pulled : MethodName := ⟨RX7, "pulled", "(II)I"⟩
abbrev cX7_byLeanings : ByteArray := prog_9_method_14_code
def yX7_byLeanings : MethodName := ⟨RX7, "byLeanings", "(I)I"⟩
abbrev cX7_votes : ByteArray := prog_9_method_15_code
def yX7_votes : MethodName := ⟨RX7, "votes", "()I"⟩
abbrev cX7_yesNow : ByteArray := prog_9_method_16_code
def yX7_yesNow : MethodName := ⟨RX7, "yesNow", "()I"⟩
abbrev cX7_seats : ByteArray := prog_9_method_17_code
def yX7_seats : MethodName := ⟨RX7, "seats", "()I"⟩
abbrev cX7_groups : ByteArray := prog_9_method_18_code
def yX7_groups : MethodName := ⟨RX7, "groups", "()I"⟩
abbrev cX7_isPassed : ByteArray := prog_9_method_19_code
def yX7_isPassed : MethodName := ⟨RX7, "isPassed", "()Z"⟩
abbrev cX7_stringOfBoth : ByteArray := prog_9_method_20_code
def yX7_stringOfBoth : MethodName := ⟨RX7, "stringOfBoth", "(II)I"⟩
abbrev cX7_refused : ByteArray := prog_9_method_21_code
def yX7_refused : MethodName := ⟨RX7, "refused", "(III)I"⟩
abbrev cX7_whyTie : ByteArray := prog_9_method_22_code
def yX7_whyTie : MethodName := ⟨RX7, "whyTie", "(IIZ)I"⟩
abbrev cX7_puppet : ByteArray := prog_9_method_23_code
def yX7_puppet : MethodName := ⟨RX7, "puppet", "(II)I"⟩
abbrev cX7_tie : ByteArray := prog_9_method_24_code
def yX7_tie : MethodName := ⟨RX7, "tie", "(IIZI)I"⟩
abbrev cX7_cuts : ByteArray := prog_9_method_25_code
def yX7_cuts : MethodName := ⟨RX7, "cuts", "(I)V"⟩
abbrev cX7_cut : ByteArray := prog_9_method_26_code
def yX7_cut : MethodName := ⟨RX7, "cut", "(I)I"⟩
abbrev cX7_ofDeal : ByteArray := prog_9_method_27_code
def yX7_ofDeal : MethodName := ⟨RX7, "ofDeal", "(I)I"⟩
abbrev cX7_cutDeal : ByteArray := prog_9_method_28_code
def yX7_cutDeal : MethodName := ⟨RX7, "cutDeal", "(I)I"⟩
abbrev cX7_manyPulled : ByteArray := prog_9_method_29_code
def yX7_manyPulled : MethodName := ⟨RX7, "manyPulled", "(I)I"⟩
abbrev cX7_barred : ByteArray := prog_9_method_30_code
def yX7_barred : MethodName := ⟨RX7, "barred", "(II)I"⟩
abbrev cX7_whyPull : ByteArray := prog_9_method_31_code
def yX7_whyPull : MethodName := ⟨RX7, "whyPull", "(II)I"⟩
abbrev cX7_pull : ByteArray := prog_9_method_32_code
def yX7_pull : MethodName := ⟨RX7, "pull", "(II)I"⟩
abbrev cX7_release : ByteArray := prog_9_method_33_code
def yX7_release : MethodName := ⟨RX7, "release", "(I)I"⟩
abbrev cX7_session : ByteArray := prog_9_method_34_code
def yX7_session : MethodName := ⟨RX7, "session", "()I"⟩
abbrev cX7_set : ByteArray := prog_9_method_35_code
def yX7_set : MethodName := ⟨RX7, "set", "(II)I"⟩
abbrev cX7_tiesOf : ByteArray := prog_9_method_36_code
def yX7_tiesOf : MethodName := ⟨RX7, "tiesOf", "(I)I"⟩
abbrev cX7_groupOf : ByteArray := prog_9_method_37_code
def yX7_groupOf : MethodName := ⟨RX7, "groupOf", "(I)I"⟩
abbrev cX7_groupSeats : ByteArray := prog_9_method_38_code
def yX7_groupSeats : MethodName := ⟨RX7, "groupSeats", "(I)I"⟩
abbrev cX7_puppetOf : ByteArray := prog_9_method_39_code
def yX7_puppetOf : MethodName := ⟨RX7, "puppetOf", "(II)I"⟩
abbrev cX7_stringOf : ByteArray := prog_9_method_40_code
def yX7_stringOf : MethodName := ⟨RX7, "stringOf", "(II)I"⟩
abbrev cX7_reached : ByteArray := prog_9_method_41_code
def yX7_reached : MethodName := ⟨RX7, "reached", "(I)I"⟩
abbrev cX7_between : ByteArray := prog_9_method_42_code
def yX7_between : MethodName := ⟨RX7, "between", "(II)I"⟩
abbrev cX7_book : ByteArray := prog_9_method_43_code
def yX7_book : MethodName := ⟨RX7, "book", "(II)I"⟩
abbrev cX7_yesWith : ByteArray := prog_9_method_44_code
def yX7_yesWith : MethodName := ⟨RX7, "yesWith", "(II)I"⟩
abbrev cX7_bestPull : ByteArray := prog_9_method_45_code
def yX7_bestPull : MethodName := ⟨RX7, "bestPull", "(I)I"⟩
abbrev cX7_gains : ByteArray := prog_9_method_46_code
def yX7_gains : MethodName := ⟨RX7, "gains", "()I"⟩
abbrev cX7_greedy : ByteArray := prog_9_method_47_code
def yX7_greedy : MethodName := ⟨RX7, "greedy", "(II)I"⟩
abbrev cX7_bySets : ByteArray := prog_9_method_48_code
def yX7_bySets : MethodName := ⟨RX7, "bySets", "(II)I"⟩
abbrev cX7_fewest : ByteArray := prog_9_method_49_code
def yX7_fewest : MethodName := ⟨RX7, "fewest", "(I)I"⟩
abbrev cX7_ifCut : ByteArray := prog_9_method_50_code
def yX7_ifCut : MethodName := ⟨RX7, "ifCut", "(II)I"⟩
abbrev cX7_share : ByteArray := prog_9_method_51_code
def yX7_share : MethodName := ⟨RX7, "share", "()I"⟩
abbrev cX7_pulledSet : ByteArray := prog_9_method_52_code
def yX7_pulledSet : MethodName := ⟨RX7, "pulledSet", "()I"⟩
abbrev cX7_walked : ByteArray := prog_9_method_53_code
def yX7_walked : MethodName := ⟨RX7, "walked", "()I"⟩
abbrev cX7_count : ByteArray := prog_9_method_54_code
def yX7_count : MethodName := ⟨RX7, "count", "(I)I"⟩
abbrev cX7_undo : ByteArray := prog_9_method_55_code
def yX7_undo : MethodName := ⟨RX7, "undo", "()I"⟩
abbrev cX7_type : ByteArray := prog_9_method_56_code
def yX7_type : MethodName := ⟨RX7, "type", "(I)I"⟩
abbrev cX7_clearText : ByteArray := prog_9_method_57_code
def yX7_clearText : MethodName := ⟨RX7, "clearText", "()I"⟩
abbrev cX7_isAt : ByteArray := prog_9_method_58_code
def yX7_isAt : MethodName := ⟨RX7, "isAt", "(II)Z"⟩
abbrev cX7_sign : ByteArray := prog_9_method_59_code
def yX7_sign : MethodName := ⟨RX7, "sign", "(I)Z"⟩
abbrev cX7_numbered : ByteArray := prog_9_method_60_code
def yX7_numbered : MethodName := ⟨RX7, "numbered", "(I)Z"⟩
abbrev cX7_numbersOf : ByteArray := prog_9_method_61_code
def yX7_numbersOf : MethodName := ⟨RX7, "numbersOf", "(I)I"⟩
abbrev cX7_parses : ByteArray := prog_9_method_62_code
def yX7_parses : MethodName := ⟨RX7, "parses", "()Z"⟩
abbrev cX7_does : ByteArray := prog_9_method_63_code
def yX7_does : MethodName := ⟨RX7, "does", "()I"⟩
abbrev cX7_plays : ByteArray := prog_9_method_64_code
def yX7_plays : MethodName := ⟨RX7, "plays", "()Z"⟩
abbrev cX7_fault : ByteArray := prog_9_method_65_code
def yX7_fault : MethodName := ⟨RX7, "fault", "(I)I"⟩
abbrev cX7_play : ByteArray := prog_9_method_66_code
def yX7_play : MethodName := ⟨RX7, "play", "()I"⟩
def RJxf58ca : String := "java/lang/Float"
def TJxf58ca : u_T := fun k => match k with
  | _ => ("", "", "", false)
def tyJxf58ca : Nat → FieldType := fun k => match k with
  | _ => .int
abbrev wsJxf58ca0 : List Cond := u_ws RJxf58ca TJxf58ca 0
theorem nmJxf58ca : ∀ a, a < 0 → ∀ b, b < 0 → a ≠ b → (TJxf58ca a).2.1 ≠ (TJxf58ca b).2.1 := by decide +kernel
theorem tyJxf58ca_ok : ∀ k, k < 0 → parseFieldDescriptor (TJxf58ca k).2.2.1 = some (tyJxf58ca k) := by decide +kernel
abbrev cJxf58ca_isNaN_12338 : ByteArray := prog_10_method_6_code
def yJxf58ca_isNaN_12338 : MethodName := ⟨RJxf58ca, "isNaN", "(F)Z"⟩
abbrev cJxf58ca_floatToIntBits_5c35a : ByteArray := prog_10_method_24_code
def yJxf58ca_floatToIntBits_5c35a : MethodName := ⟨RJxf58ca, "floatToIntBits", "(F)I"⟩
def RJ6 : String := "java/lang/Integer"
def TJ6 : u_T := fun k => match k with
  | _ => ("", "", "", false)
def tyJ6 : Nat → FieldType := fun k => match k with
  | _ => .int
abbrev wsJ60 : List Cond := u_ws RJ6 TJ6 0
theorem nmJ6 : ∀ a, a < 0 → ∀ b, b < 0 → a ≠ b → (TJ6 a).2.1 ≠ (TJ6 b).2.1 := by decide +kernel
theorem tyJ6_ok : ∀ k, k < 0 → parseFieldDescriptor (TJ6 k).2.2.1 = some (tyJ6 k) := by decide +kernel
abbrev cJ6_bitCount_0f7a4 : ByteArray := prog_11_method_49_code
def yJ6_bitCount_0f7a4 : MethodName := ⟨RJ6, "bitCount", "(I)I"⟩
def RJ9 : String := "java/lang/Math"
def TJ9 : u_T := fun k => match k with
  | _ => ("", "", "", false)
def tyJ9 : Nat → FieldType := fun k => match k with
  | _ => .int
abbrev wsJ90 : List Cond := u_ws RJ9 TJ9 0
theorem nmJ9 : ∀ a, a < 0 → ∀ b, b < 0 → a ≠ b → (TJ9 a).2.1 ≠ (TJ9 b).2.1 := by decide +kernel
theorem tyJ9_ok : ∀ k, k < 0 → parseFieldDescriptor (TJ9 k).2.2.1 = some (tyJ9 k) := by decide +kernel
abbrev cJ9_max_7cf53 : ByteArray := prog_12_method_65_code
def yJ9_max_7cf53 : MethodName := ⟨RJ9, "max", "(II)I"⟩
abbrev cJ9_min_7cf53 : ByteArray := prog_12_method_69_code
def yJ9_min_7cf53 : MethodName := ⟨RJ9, "min", "(II)I"⟩
def RJ10 : String := "java/lang/System"
def TJ10 : u_T := fun k => match k with
  | _ => ("", "", "", false)
def tyJ10 : Nat → FieldType := fun k => match k with
  | _ => .int
abbrev wsJ100 : List Cond := u_ws RJ10 TJ10 0
theorem nmJ10 : ∀ a, a < 0 → ∀ b, b < 0 → a ≠ b → (TJ10 a).2.1 ≠ (TJ10 b).2.1 := by decide +kernel
theorem tyJ10_ok : ∀ k, k < 0 → parseFieldDescriptor (TJ10 k).2.2.1 = some (tyJ10 k) := by decide +kernel
def RL : String := "StringVotesLaw"
abbrev cL_law : ByteArray := code
def yL_law : MethodName := ⟨RL, "law", "([I)Z"⟩
abbrev vwCl : List vw_C := [(RX0, TX0, 3), (RX1, TX1, 13), (RX2, TX2, 1), (RX3, TX3, 6), (RX4, TX4, 5), (RX5, TX5, 3), (RX6, TX6, 11), (RX7, TX7, 18)]
/-- the words that hold at every method: the law's, but for those of nest mates -/
def ALL : List Cond := lw_tbl.filter goodWord
def nestW : Cond → Bool
  | .fieldLinkNest _ _ _ _ _ _ => true
  | .methodLinkNest _ _ _ _ => true
  | _ => false
def NST : List Cond := lw_tbl.filter nestW
theorem q_0 : Cond.selects RX1 yX1_copyFrom yX1_copyFrom ∈ ALL := List.mem_filter.mpr ⟨List.mem_of_getElem? (i := 0) (by decide +kernel), rfl⟩
theorem q_1 : Cond.selects RX2 yX2_copyFrom yX2_copyFrom ∈ ALL := List.mem_filter.mpr ⟨List.mem_of_getElem? (i := 1) (by decide +kernel), rfl⟩
theorem q_2 : Cond.selects RX3 yX3_copyFrom yX3_copyFrom ∈ ALL := List.mem_filter.mpr ⟨List.mem_of_getElem? (i := 2) (by decide +kernel), rfl⟩
theorem q_3 : Cond.selects RX0 yX0_copyFrom yX0_copyFrom ∈ ALL := List.mem_filter.mpr ⟨List.mem_of_getElem? (i := 3) (by decide +kernel), rfl⟩
theorem q_4 : Cond.selects RX1 yX1_addPuppet yX1_addPuppet ∈ ALL := List.mem_filter.mpr ⟨List.mem_of_getElem? (i := 4) (by decide +kernel), rfl⟩
theorem q_5 : Cond.selects RX2 yX2_put yX2_put ∈ ALL := List.mem_filter.mpr ⟨List.mem_of_getElem? (i := 5) (by decide +kernel), rfl⟩
theorem q_6 : Cond.selects RX1 yX1_tellGroups yX1_tellGroups ∈ ALL := List.mem_filter.mpr ⟨List.mem_of_getElem? (i := 6) (by decide +kernel), rfl⟩
theorem q_7 : Cond.selects RX1 yX1_joinBy yX1_joinBy ∈ ALL := List.mem_filter.mpr ⟨List.mem_of_getElem? (i := 7) (by decide +kernel), rfl⟩
theorem q_8 : Cond.selects RX2 yX2_get yX2_get ∈ ALL := List.mem_filter.mpr ⟨List.mem_of_getElem? (i := 8) (by decide +kernel), rfl⟩
theorem q_9 : Cond.selects RX1 yX1_tellVotes yX1_tellVotes ∈ ALL := List.mem_filter.mpr ⟨List.mem_of_getElem? (i := 9) (by decide +kernel), rfl⟩
theorem q_10 : Cond.selects RX1 yX1_pulledVote yX1_pulledVote ∈ ALL := List.mem_filter.mpr ⟨List.mem_of_getElem? (i := 10) (by decide +kernel), rfl⟩
theorem q_11 : Cond.selects RX1 yX1_leadingVote yX1_leadingVote ∈ ALL := List.mem_filter.mpr ⟨List.mem_of_getElem? (i := 11) (by decide +kernel), rfl⟩
theorem q_12 : Cond.selects RX6 yX6_settle yX6_settle ∈ ALL := List.mem_filter.mpr ⟨List.mem_of_getElem? (i := 12) (by decide +kernel), rfl⟩
theorem q_13 : Cond.selects RX6 yX6_remember yX6_remember ∈ ALL := List.mem_filter.mpr ⟨List.mem_of_getElem? (i := 13) (by decide +kernel), rfl⟩
theorem q_14 : Cond.selects RX6 yX6_pastState yX6_pastState ∈ ALL := List.mem_filter.mpr ⟨List.mem_of_getElem? (i := 14) (by decide +kernel), rfl⟩
theorem q_15 : Cond.selects RX1 yX1_addString yX1_addString ∈ ALL := List.mem_filter.mpr ⟨List.mem_of_getElem? (i := 15) (by decide +kernel), rfl⟩
theorem q_16 : Cond.selects RX1 yX1_arePair yX1_arePair ∈ ALL := List.mem_filter.mpr ⟨List.mem_of_getElem? (i := 16) (by decide +kernel), rfl⟩
theorem q_17 : Cond.selects RX1 yX1_hasPuppet yX1_hasPuppet ∈ ALL := List.mem_filter.mpr ⟨List.mem_of_getElem? (i := 17) (by decide +kernel), rfl⟩
theorem q_18 : Cond.selects RX1 yX1_reasonAgainstString yX1_reasonAgainstString ∈ ALL := List.mem_filter.mpr ⟨List.mem_of_getElem? (i := 18) (by decide +kernel), rfl⟩
theorem q_19 : Cond.selects RX3 yX3_areTied yX3_areTied ∈ ALL := List.mem_filter.mpr ⟨List.mem_of_getElem? (i := 19) (by decide +kernel), rfl⟩
theorem q_20 : Cond.selects RX1 yX1_hangTogether yX1_hangTogether ∈ ALL := List.mem_filter.mpr ⟨List.mem_of_getElem? (i := 20) (by decide +kernel), rfl⟩
theorem q_21 : Cond.selects RX3 yX3_append yX3_append ∈ ALL := List.mem_filter.mpr ⟨List.mem_of_getElem? (i := 21) (by decide +kernel), rfl⟩
theorem q_22 : Cond.selects RX1 yX1_cutString yX1_cutString ∈ ALL := List.mem_filter.mpr ⟨List.mem_of_getElem? (i := 22) (by decide +kernel), rfl⟩
theorem q_23 : Cond.selects RX3 yX3_has yX3_has ∈ ALL := List.mem_filter.mpr ⟨List.mem_of_getElem? (i := 23) (by decide +kernel), rfl⟩
theorem q_24 : Cond.selects RX3 yX3_removeAt yX3_removeAt ∈ ALL := List.mem_filter.mpr ⟨List.mem_of_getElem? (i := 24) (by decide +kernel), rfl⟩
theorem q_25 : Cond.selects RX2 yX2_removeAt yX2_removeAt ∈ ALL := List.mem_filter.mpr ⟨List.mem_of_getElem? (i := 25) (by decide +kernel), rfl⟩
theorem q_26 : Cond.selects RX1 yX1_cutStringsOf yX1_cutStringsOf ∈ ALL := List.mem_filter.mpr ⟨List.mem_of_getElem? (i := 26) (by decide +kernel), rfl⟩
theorem q_27 : Cond.selects RX3 yX3_removeAllOf yX3_removeAllOf ∈ ALL := List.mem_filter.mpr ⟨List.mem_of_getElem? (i := 27) (by decide +kernel), rfl⟩
theorem q_28 : Cond.selects RX1 yX1_pullTo yX1_pullTo ∈ ALL := List.mem_filter.mpr ⟨List.mem_of_getElem? (i := 28) (by decide +kernel), rfl⟩
theorem q_29 : Cond.selects RX1 yX1_reasonAgainstPull yX1_reasonAgainstPull ∈ ALL := List.mem_filter.mpr ⟨List.mem_of_getElem? (i := 29) (by decide +kernel), rfl⟩
theorem q_30 : Cond.selects RX1 yX1_isPulled yX1_isPulled ∈ ALL := List.mem_filter.mpr ⟨List.mem_of_getElem? (i := 30) (by decide +kernel), rfl⟩
theorem q_31 : Cond.selects RX1 yX1_letGo yX1_letGo ∈ ALL := List.mem_filter.mpr ⟨List.mem_of_getElem? (i := 31) (by decide +kernel), rfl⟩
theorem q_32 : Cond.selects RX1 yX1_holdSession yX1_holdSession ∈ ALL := List.mem_filter.mpr ⟨List.mem_of_getElem? (i := 32) (by decide +kernel), rfl⟩
theorem q_33 : Cond.selects RX1 yX1_wouldPass yX1_wouldPass ∈ ALL := List.mem_filter.mpr ⟨List.mem_of_getElem? (i := 33) (by decide +kernel), rfl⟩
theorem q_34 : Cond.selects RX0 yX0_enter yX0_enter ∈ ALL := List.mem_filter.mpr ⟨List.mem_of_getElem? (i := 34) (by decide +kernel), rfl⟩
theorem q_35 : Cond.selects RX1 yX1_bindPulls yX1_bindPulls ∈ ALL := List.mem_filter.mpr ⟨List.mem_of_getElem? (i := 35) (by decide +kernel), rfl⟩
theorem q_36 : Cond.selects RX3 yX3_howManyAt yX3_howManyAt ∈ ALL := List.mem_filter.mpr ⟨List.mem_of_getElem? (i := 36) (by decide +kernel), rfl⟩
theorem q_37 : Cond.selects RX1 yX1_membersOf yX1_membersOf ∈ ALL := List.mem_filter.mpr ⟨List.mem_of_getElem? (i := 37) (by decide +kernel), rfl⟩
theorem q_38 : Cond.selects RX1 yX1_seatsIn yX1_seatsIn ∈ ALL := List.mem_filter.mpr ⟨List.mem_of_getElem? (i := 38) (by decide +kernel), rfl⟩
theorem q_39 : Cond.selects RX6 yX6_hangTogetherWithout yX6_hangTogetherWithout ∈ ALL := List.mem_filter.mpr ⟨List.mem_of_getElem? (i := 39) (by decide +kernel), rfl⟩
theorem q_40 : Cond.selects RX3 yX3_oneStringFurther yX3_oneStringFurther ∈ ALL := List.mem_filter.mpr ⟨List.mem_of_getElem? (i := 40) (by decide +kernel), rfl⟩
theorem q_41 : Cond.selects RX0 yX0_kept yX0_kept ∈ ALL := List.mem_filter.mpr ⟨List.mem_of_getElem? (i := 41) (by decide +kernel), rfl⟩
theorem q_42 : Cond.selects RX0 yX0_entry yX0_entry ∈ ALL := List.mem_filter.mpr ⟨List.mem_of_getElem? (i := 42) (by decide +kernel), rfl⟩
theorem q_43 : Cond.selects RX6 yX6_seatsIfPulled yX6_seatsIfPulled ∈ ALL := List.mem_filter.mpr ⟨List.mem_of_getElem? (i := 43) (by decide +kernel), rfl⟩
theorem q_44 : Cond.selects RX5 yX5_collect yX5_collect ∈ ALL := List.mem_filter.mpr ⟨List.mem_of_getElem? (i := 44) (by decide +kernel), rfl⟩
theorem q_45 : Cond.selects RX1 yX1_yesVoters yX1_yesVoters ∈ ALL := List.mem_filter.mpr ⟨List.mem_of_getElem? (i := 45) (by decide +kernel), rfl⟩
theorem q_46 : Cond.selects RX5 yX5_fewestByTheBest yX5_fewestByTheBest ∈ ALL := List.mem_filter.mpr ⟨List.mem_of_getElem? (i := 46) (by decide +kernel), rfl⟩
theorem q_47 : Cond.selects RX5 yX5_bestBut yX5_bestBut ∈ ALL := List.mem_filter.mpr ⟨List.mem_of_getElem? (i := 47) (by decide +kernel), rfl⟩
theorem q_48 : Cond.selects RX5 yX5_fewestOfAllSets yX5_fewestOfAllSets ∈ ALL := List.mem_filter.mpr ⟨List.mem_of_getElem? (i := 48) (by decide +kernel), rfl⟩
theorem q_49 : Cond.selects RX5 yX5_stepTo yX5_stepTo ∈ ALL := List.mem_filter.mpr ⟨List.mem_of_getElem? (i := 49) (by decide +kernel), rfl⟩
theorem q_50 : Cond.selects RX1 yX1_groupsByJoining yX1_groupsByJoining ∈ ALL := List.mem_filter.mpr ⟨List.mem_of_getElem? (i := 50) (by decide +kernel), rfl⟩
theorem q_51 : Cond.selects RX1 yX1_groupsByWalking yX1_groupsByWalking ∈ ALL := List.mem_filter.mpr ⟨List.mem_of_getElem? (i := 51) (by decide +kernel), rfl⟩
theorem q_52 : Cond.selects RX1 yX1_walkFrom yX1_walkFrom ∈ ALL := List.mem_filter.mpr ⟨List.mem_of_getElem? (i := 52) (by decide +kernel), rfl⟩
theorem q_53 : Cond.selects RX1 yX1_pulledPuppets yX1_pulledPuppets ∈ ALL := List.mem_filter.mpr ⟨List.mem_of_getElem? (i := 53) (by decide +kernel), rfl⟩
theorem q_54 : Cond.selects RX4 yX4_append yX4_append ∈ ALL := List.mem_filter.mpr ⟨List.mem_of_getElem? (i := 54) (by decide +kernel), rfl⟩
theorem q_55 : Cond.selects RX6 yX6_tryOrders yX6_tryOrders ∈ ALL := List.mem_filter.mpr ⟨List.mem_of_getElem? (i := 55) (by decide +kernel), rfl⟩
theorem q_56 : Cond.selects RX4 yX4_readOrder yX4_readOrder ∈ ALL := List.mem_filter.mpr ⟨List.mem_of_getElem? (i := 56) (by decide +kernel), rfl⟩
theorem q_57 : Cond.selects RX4 yX4_current yX4_current ∈ ALL := List.mem_filter.mpr ⟨List.mem_of_getElem? (i := 57) (by decide +kernel), rfl⟩
theorem q_58 : Cond.selects RX4 yX4_skip yX4_skip ∈ ALL := List.mem_filter.mpr ⟨List.mem_of_getElem? (i := 58) (by decide +kernel), rfl⟩
theorem q_59 : Cond.selects RX4 yX4_readNumber yX4_readNumber ∈ ALL := List.mem_filter.mpr ⟨List.mem_of_getElem? (i := 59) (by decide +kernel), rfl⟩
theorem q_60 : Cond.selects RX6 yX6_foundFault yX6_foundFault ∈ ALL := List.mem_filter.mpr ⟨List.mem_of_getElem? (i := 60) (by decide +kernel), rfl⟩
theorem q_61 : Cond.selects RX6 yX6_obey yX6_obey ∈ ALL := List.mem_filter.mpr ⟨List.mem_of_getElem? (i := 61) (by decide +kernel), rfl⟩
theorem q_62 : Cond.selects RX7 yX7_isPair yX7_isPair ∈ ALL := List.mem_filter.mpr ⟨List.mem_of_getElem? (i := 62) (by decide +kernel), rfl⟩
theorem q_63 : Cond.selects RX7 yX7_isPuppet yX7_isPuppet ∈ ALL := List.mem_filter.mpr ⟨List.mem_of_getElem? (i := 63) (by decide +kernel), rfl⟩
theorem q_64 : Cond.selects RX7 yX7_refused yX7_refused ∈ ALL := List.mem_filter.mpr ⟨List.mem_of_getElem? (i := 64) (by decide +kernel), rfl⟩
theorem q_65 : Cond.selects RX7 yX7_stringOfBoth yX7_stringOfBoth ∈ ALL := List.mem_filter.mpr ⟨List.mem_of_getElem? (i := 65) (by decide +kernel), rfl⟩
theorem q_66 : Cond.selects RX7 yX7_tied yX7_tied ∈ ALL := List.mem_filter.mpr ⟨List.mem_of_getElem? (i := 66) (by decide +kernel), rfl⟩
theorem q_67 : Cond.selects RX7 yX7_looks yX7_looks ∈ ALL := List.mem_filter.mpr ⟨List.mem_of_getElem? (i := 67) (by decide +kernel), rfl⟩
theorem q_68 : Cond.selects RX7 yX7_isJoined yX7_isJoined ∈ ALL := List.mem_filter.mpr ⟨List.mem_of_getElem? (i := 68) (by decide +kernel), rfl⟩
theorem q_69 : Cond.selects RX7 yX7_pulled yX7_pulled ∈ ALL := List.mem_filter.mpr ⟨List.mem_of_getElem? (i := 69) (by decide +kernel), rfl⟩
theorem q_70 : Cond.selects RX7 yX7_of yX7_of ∈ ALL := List.mem_filter.mpr ⟨List.mem_of_getElem? (i := 70) (by decide +kernel), rfl⟩
theorem q_71 : Cond.selects RX7 yX7_changes yX7_changes ∈ ALL := List.mem_filter.mpr ⟨List.mem_of_getElem? (i := 71) (by decide +kernel), rfl⟩
theorem q_72 : Cond.selects RX7 yX7_isString yX7_isString ∈ ALL := List.mem_filter.mpr ⟨List.mem_of_getElem? (i := 72) (by decide +kernel), rfl⟩
theorem q_73 : Cond.selects RX7 yX7_cuts yX7_cuts ∈ ALL := List.mem_filter.mpr ⟨List.mem_of_getElem? (i := 73) (by decide +kernel), rfl⟩
theorem q_74 : Cond.selects RX7 yX7_ofDeal yX7_ofDeal ∈ ALL := List.mem_filter.mpr ⟨List.mem_of_getElem? (i := 74) (by decide +kernel), rfl⟩
theorem q_75 : Cond.selects RX7 yX7_barred yX7_barred ∈ ALL := List.mem_filter.mpr ⟨List.mem_of_getElem? (i := 75) (by decide +kernel), rfl⟩
theorem q_76 : Cond.selects RX7 yX7_manyPulled yX7_manyPulled ∈ ALL := List.mem_filter.mpr ⟨List.mem_of_getElem? (i := 76) (by decide +kernel), rfl⟩
theorem q_77 : Cond.selects RX7 yX7_yesNow yX7_yesNow ∈ ALL := List.mem_filter.mpr ⟨List.mem_of_getElem? (i := 77) (by decide +kernel), rfl⟩
theorem q_78 : Cond.selects RX7 yX7_votes yX7_votes ∈ ALL := List.mem_filter.mpr ⟨List.mem_of_getElem? (i := 78) (by decide +kernel), rfl⟩
theorem q_79 : Cond.selects RX7 yX7_byLeanings yX7_byLeanings ∈ ALL := List.mem_filter.mpr ⟨List.mem_of_getElem? (i := 79) (by decide +kernel), rfl⟩
theorem q_80 : Cond.selects RX7 yX7_isPassed yX7_isPassed ∈ ALL := List.mem_filter.mpr ⟨List.mem_of_getElem? (i := 80) (by decide +kernel), rfl⟩
theorem q_81 : Cond.selects RX7 yX7_seats yX7_seats ∈ ALL := List.mem_filter.mpr ⟨List.mem_of_getElem? (i := 81) (by decide +kernel), rfl⟩
theorem q_82 : Cond.selects RX7 yX7_tiesOf yX7_tiesOf ∈ ALL := List.mem_filter.mpr ⟨List.mem_of_getElem? (i := 82) (by decide +kernel), rfl⟩
theorem q_83 : Cond.selects RX7 yX7_groupOf yX7_groupOf ∈ ALL := List.mem_filter.mpr ⟨List.mem_of_getElem? (i := 83) (by decide +kernel), rfl⟩
theorem q_84 : Cond.selects RX7 yX7_groupSeats yX7_groupSeats ∈ ALL := List.mem_filter.mpr ⟨List.mem_of_getElem? (i := 84) (by decide +kernel), rfl⟩
theorem q_85 : Cond.selects RX7 yX7_reached yX7_reached ∈ ALL := List.mem_filter.mpr ⟨List.mem_of_getElem? (i := 85) (by decide +kernel), rfl⟩
theorem q_86 : Cond.selects RX7 yX7_yesWith yX7_yesWith ∈ ALL := List.mem_filter.mpr ⟨List.mem_of_getElem? (i := 86) (by decide +kernel), rfl⟩
theorem q_87 : Cond.selects RX7 yX7_gains yX7_gains ∈ ALL := List.mem_filter.mpr ⟨List.mem_of_getElem? (i := 87) (by decide +kernel), rfl⟩
theorem q_88 : Cond.selects RX7 yX7_greedy yX7_greedy ∈ ALL := List.mem_filter.mpr ⟨List.mem_of_getElem? (i := 88) (by decide +kernel), rfl⟩
theorem q_89 : Cond.selects RX7 yX7_bySets yX7_bySets ∈ ALL := List.mem_filter.mpr ⟨List.mem_of_getElem? (i := 89) (by decide +kernel), rfl⟩
theorem q_90 : Cond.selects RX7 yX7_groups yX7_groups ∈ ALL := List.mem_filter.mpr ⟨List.mem_of_getElem? (i := 90) (by decide +kernel), rfl⟩
theorem q_91 : Cond.selects RX7 yX7_walked yX7_walked ∈ ALL := List.mem_filter.mpr ⟨List.mem_of_getElem? (i := 91) (by decide +kernel), rfl⟩
theorem q_92 : Cond.selects RX7 yX7_pulledSet yX7_pulledSet ∈ ALL := List.mem_filter.mpr ⟨List.mem_of_getElem? (i := 92) (by decide +kernel), rfl⟩
theorem q_93 : Cond.selects RX7 yX7_plays yX7_plays ∈ ALL := List.mem_filter.mpr ⟨List.mem_of_getElem? (i := 93) (by decide +kernel), rfl⟩
theorem q_94 : Cond.selects RX7 yX7_parses yX7_parses ∈ ALL := List.mem_filter.mpr ⟨List.mem_of_getElem? (i := 94) (by decide +kernel), rfl⟩
theorem q_95 : Cond.selects RX7 yX7_isAt yX7_isAt ∈ ALL := List.mem_filter.mpr ⟨List.mem_of_getElem? (i := 95) (by decide +kernel), rfl⟩
theorem q_96 : Cond.selects RX7 yX7_numbered yX7_numbered ∈ ALL := List.mem_filter.mpr ⟨List.mem_of_getElem? (i := 96) (by decide +kernel), rfl⟩
theorem q_97 : Cond.selects RX7 yX7_sign yX7_sign ∈ ALL := List.mem_filter.mpr ⟨List.mem_of_getElem? (i := 97) (by decide +kernel), rfl⟩
theorem q_98 : Cond.selects RX7 yX7_does yX7_does ∈ ALL := List.mem_filter.mpr ⟨List.mem_of_getElem? (i := 98) (by decide +kernel), rfl⟩
theorem q_99 : Cond.initialized RL ∈ ALL := List.mem_filter.mpr ⟨List.mem_of_getElem? (i := 99) (by decide +kernel), rfl⟩
theorem q_100 : Cond.initialized RX6 ∈ ALL := List.mem_filter.mpr ⟨List.mem_of_getElem? (i := 100) (by decide +kernel), rfl⟩
theorem q_101 : Cond.initialized RX1 ∈ ALL := List.mem_filter.mpr ⟨List.mem_of_getElem? (i := 101) (by decide +kernel), rfl⟩
theorem q_102 : Cond.initialized RX2 ∈ ALL := List.mem_filter.mpr ⟨List.mem_of_getElem? (i := 102) (by decide +kernel), rfl⟩
theorem q_103 : Cond.initialized RJ9 ∈ ALL := List.mem_filter.mpr ⟨List.mem_of_getElem? (i := 103) (by decide +kernel), rfl⟩
theorem q_104 : Cond.initialized RX3 ∈ ALL := List.mem_filter.mpr ⟨List.mem_of_getElem? (i := 104) (by decide +kernel), rfl⟩
theorem q_105 : Cond.initialized RX0 ∈ ALL := List.mem_filter.mpr ⟨List.mem_of_getElem? (i := 105) (by decide +kernel), rfl⟩
theorem q_106 : Cond.initialized RX5 ∈ ALL := List.mem_filter.mpr ⟨List.mem_of_getElem? (i := 106) (by decide +kernel), rfl⟩
theorem q_107 : Cond.initialized RX4 ∈ ALL := List.mem_filter.mpr ⟨List.mem_of_getElem? (i := 107) (by decide +kernel), rfl⟩
theorem q_108 : Cond.initialized RX7 ∈ ALL := List.mem_filter.mpr ⟨List.mem_of_getElem? (i := 108) (by decide +kernel), rfl⟩
theorem q_109 : Cond.initialized RJ10 ∈ ALL := List.mem_filter.mpr ⟨List.mem_of_getElem? (i := 109) (by decide +kernel), rfl⟩
theorem q_110 : Cond.initialized RJ6 ∈ ALL := List.mem_filter.mpr ⟨List.mem_of_getElem? (i := 110) (by decide +kernel), rfl⟩
theorem q_111 : Cond.initialized RJxf58ca ∈ ALL := List.mem_filter.mpr ⟨List.mem_of_getElem? (i := 111) (by decide +kernel), rfl⟩
theorem q_112 : Cond.classLink RL 7 RX6 ∈ ALL := List.mem_filter.mpr ⟨List.mem_of_getElem? (i := 112) (by decide +kernel), rfl⟩
theorem q_113 : Cond.instantiable RX6 11 ∈ ALL := List.mem_filter.mpr ⟨List.mem_of_getElem? (i := 113) (by decide +kernel), rfl⟩
theorem q_114 : Cond.methodLink RL 9 yX6_init ∈ ALL := List.mem_filter.mpr ⟨List.mem_of_getElem? (i := 114) (by decide +kernel), rfl⟩
theorem q_115 : Cond.instanceMethod yX6_init ∈ ALL := List.mem_filter.mpr ⟨List.mem_of_getElem? (i := 115) (by decide +kernel), rfl⟩
theorem q_116 : Cond.code yX6_init cX6_init 2 none ∈ ALL := List.mem_filter.mpr ⟨List.mem_of_getElem? (i := 116) (by decide +kernel), rfl⟩
theorem q_117 : Cond.methodLink RX6 1 objectInit ∈ ALL := List.mem_filter.mpr ⟨List.mem_of_getElem? (i := 117) (by decide +kernel), rfl⟩
theorem q_118 : Cond.instanceMethod objectInit ∈ ALL := List.mem_filter.mpr ⟨List.mem_of_getElem? (i := 118) (by decide +kernel), rfl⟩
theorem q_119 : Cond.code objectInit ⟨#[0xb1]⟩ 1 none ∈ ALL := List.mem_filter.mpr ⟨List.mem_of_getElem? (i := 119) (by decide +kernel), rfl⟩
theorem q_120 : Cond.classLink RX6 7 RX1 ∈ ALL := List.mem_filter.mpr ⟨List.mem_of_getElem? (i := 120) (by decide +kernel), rfl⟩
theorem q_121 : Cond.instantiable RX1 13 ∈ ALL := List.mem_filter.mpr ⟨List.mem_of_getElem? (i := 121) (by decide +kernel), rfl⟩
theorem q_122 : Cond.methodLinkNest RX6 9 yX1_init RX6 ∈ NST := List.mem_filter.mpr ⟨List.mem_of_getElem? (i := 122) (by decide +kernel), rfl⟩
theorem q_123 : Cond.instanceMethod yX1_init ∈ ALL := List.mem_filter.mpr ⟨List.mem_of_getElem? (i := 123) (by decide +kernel), rfl⟩
theorem q_124 : Cond.code yX1_init cX1_init 1 none ∈ ALL := List.mem_filter.mpr ⟨List.mem_of_getElem? (i := 124) (by decide +kernel), rfl⟩
theorem q_125 : Cond.methodLink RX1 3 objectInit ∈ ALL := List.mem_filter.mpr ⟨List.mem_of_getElem? (i := 125) (by decide +kernel), rfl⟩
theorem q_126 : Cond.classLink RX1 9 RX2 ∈ ALL := List.mem_filter.mpr ⟨List.mem_of_getElem? (i := 126) (by decide +kernel), rfl⟩
theorem q_127 : Cond.instantiable RX2 1 ∈ ALL := List.mem_filter.mpr ⟨List.mem_of_getElem? (i := 127) (by decide +kernel), rfl⟩
theorem q_128 : Cond.methodLinkNest RX1 11 yX2_init RX6 ∈ NST := List.mem_filter.mpr ⟨List.mem_of_getElem? (i := 128) (by decide +kernel), rfl⟩
theorem q_129 : Cond.instanceMethod yX2_init ∈ ALL := List.mem_filter.mpr ⟨List.mem_of_getElem? (i := 129) (by decide +kernel), rfl⟩
theorem q_130 : Cond.code yX2_init cX2_init 2 none ∈ ALL := List.mem_filter.mpr ⟨List.mem_of_getElem? (i := 130) (by decide +kernel), rfl⟩
theorem q_131 : Cond.methodLink RX2 1 objectInit ∈ ALL := List.mem_filter.mpr ⟨List.mem_of_getElem? (i := 131) (by decide +kernel), rfl⟩
theorem q_132 : Cond.methodLink RX2 7 yJ9_max_7cf53 ∈ ALL := List.mem_filter.mpr ⟨List.mem_of_getElem? (i := 132) (by decide +kernel), rfl⟩
theorem q_133 : Cond.static yJ9_max_7cf53 ∈ ALL := List.mem_filter.mpr ⟨List.mem_of_getElem? (i := 133) (by decide +kernel), rfl⟩
theorem q_134 : Cond.code yJ9_max_7cf53 cJ9_max_7cf53 2 (some .int) ∈ ALL := List.mem_filter.mpr ⟨List.mem_of_getElem? (i := 134) (by decide +kernel), rfl⟩
theorem q_135 : Cond.fieldLink RX2 13 "StringVotes$Row" "cells" "[I" ∈ ALL := List.mem_filter.mpr ⟨List.mem_of_getElem? (i := 135) (by decide +kernel), rfl⟩
theorem q_139 : Cond.arrayClass .int ∈ ALL := List.mem_filter.mpr ⟨List.mem_of_getElem? (i := 139) (by decide +kernel), rfl⟩
theorem q_140 : Cond.classLink RX1 35 RX3 ∈ ALL := List.mem_filter.mpr ⟨List.mem_of_getElem? (i := 140) (by decide +kernel), rfl⟩
theorem q_141 : Cond.instantiable RX3 6 ∈ ALL := List.mem_filter.mpr ⟨List.mem_of_getElem? (i := 141) (by decide +kernel), rfl⟩
theorem q_142 : Cond.methodLinkNest RX1 37 yX3_init RX6 ∈ NST := List.mem_filter.mpr ⟨List.mem_of_getElem? (i := 142) (by decide +kernel), rfl⟩
theorem q_143 : Cond.instanceMethod yX3_init ∈ ALL := List.mem_filter.mpr ⟨List.mem_of_getElem? (i := 143) (by decide +kernel), rfl⟩
theorem q_144 : Cond.code yX3_init cX3_init 1 none ∈ ALL := List.mem_filter.mpr ⟨List.mem_of_getElem? (i := 144) (by decide +kernel), rfl⟩
theorem q_145 : Cond.methodLink RX3 3 objectInit ∈ ALL := List.mem_filter.mpr ⟨List.mem_of_getElem? (i := 145) (by decide +kernel), rfl⟩
theorem q_146 : Cond.classLink RX3 9 RX2 ∈ ALL := List.mem_filter.mpr ⟨List.mem_of_getElem? (i := 146) (by decide +kernel), rfl⟩
theorem q_147 : Cond.methodLinkNest RX3 11 yX2_init RX6 ∈ NST := List.mem_filter.mpr ⟨List.mem_of_getElem? (i := 147) (by decide +kernel), rfl⟩
theorem q_148 : Cond.fieldLink RX3 14 "StringVotes$Strings" "lower" "LStringVotes$Row;" ∈ ALL := List.mem_filter.mpr ⟨List.mem_of_getElem? (i := 148) (by decide +kernel), rfl⟩
theorem q_149 : Cond.fieldLinkNest RX6 123 "StringVotes$Strings" "lower" "LStringVotes$Row;" RX6 ∈ NST := List.mem_filter.mpr ⟨List.mem_of_getElem? (i := 149) (by decide +kernel), rfl⟩
theorem q_150 : Cond.fieldLinkNest RX1 145 "StringVotes$Strings" "lower" "LStringVotes$Row;" RX6 ∈ NST := List.mem_filter.mpr ⟨List.mem_of_getElem? (i := 150) (by decide +kernel), rfl⟩
theorem q_151 : Cond.fieldLink RX3 20 "StringVotes$Strings" "upper" "LStringVotes$Row;" ∈ ALL := List.mem_filter.mpr ⟨List.mem_of_getElem? (i := 151) (by decide +kernel), rfl⟩
theorem q_152 : Cond.fieldLinkNest RX6 126 "StringVotes$Strings" "upper" "LStringVotes$Row;" RX6 ∈ NST := List.mem_filter.mpr ⟨List.mem_of_getElem? (i := 152) (by decide +kernel), rfl⟩
theorem q_153 : Cond.fieldLinkNest RX1 148 "StringVotes$Strings" "upper" "LStringVotes$Row;" RX6 ∈ NST := List.mem_filter.mpr ⟨List.mem_of_getElem? (i := 153) (by decide +kernel), rfl⟩
theorem q_154 : Cond.fieldLink RX3 23 "StringVotes$Strings" "unlike" "LStringVotes$Row;" ∈ ALL := List.mem_filter.mpr ⟨List.mem_of_getElem? (i := 154) (by decide +kernel), rfl⟩
theorem q_155 : Cond.fieldLinkNest RX6 129 "StringVotes$Strings" "unlike" "LStringVotes$Row;" RX6 ∈ NST := List.mem_filter.mpr ⟨List.mem_of_getElem? (i := 155) (by decide +kernel), rfl⟩
theorem q_156 : Cond.fieldLinkNest RX1 159 "StringVotes$Strings" "unlike" "LStringVotes$Row;" RX6 ∈ NST := List.mem_filter.mpr ⟨List.mem_of_getElem? (i := 156) (by decide +kernel), rfl⟩
theorem q_157 : Cond.fieldLink RX3 26 "StringVotes$Strings" "deal" "LStringVotes$Row;" ∈ ALL := List.mem_filter.mpr ⟨List.mem_of_getElem? (i := 157) (by decide +kernel), rfl⟩
theorem q_158 : Cond.fieldLinkNest RX6 132 "StringVotes$Strings" "deal" "LStringVotes$Row;" RX6 ∈ NST := List.mem_filter.mpr ⟨List.mem_of_getElem? (i := 158) (by decide +kernel), rfl⟩
theorem q_159 : Cond.fieldLink RX3 33 "StringVotes$Strings" "size" "I" ∈ ALL := List.mem_filter.mpr ⟨List.mem_of_getElem? (i := 159) (by decide +kernel), rfl⟩
theorem q_160 : Cond.fieldLinkNest RX1 100 "StringVotes$Strings" "size" "I" RX6 ∈ NST := List.mem_filter.mpr ⟨List.mem_of_getElem? (i := 160) (by decide +kernel), rfl⟩
theorem q_161 : Cond.fieldLinkNest RX6 209 "StringVotes$Strings" "size" "I" RX6 ∈ NST := List.mem_filter.mpr ⟨List.mem_of_getElem? (i := 161) (by decide +kernel), rfl⟩
theorem q_162 : Cond.fieldLink RX3 37 "StringVotes$Strings" "cuts" "I" ∈ ALL := List.mem_filter.mpr ⟨List.mem_of_getElem? (i := 162) (by decide +kernel), rfl⟩
theorem q_163 : Cond.fieldLinkNest RX6 236 "StringVotes$Strings" "cuts" "I" RX6 ∈ NST := List.mem_filter.mpr ⟨List.mem_of_getElem? (i := 163) (by decide +kernel), rfl⟩
theorem q_177 : Cond.classLink RX1 42 RX0 ∈ ALL := List.mem_filter.mpr ⟨List.mem_of_getElem? (i := 177) (by decide +kernel), rfl⟩
theorem q_178 : Cond.instantiable RX0 3 ∈ ALL := List.mem_filter.mpr ⟨List.mem_of_getElem? (i := 178) (by decide +kernel), rfl⟩
theorem q_179 : Cond.methodLinkNest RX1 44 yX0_init RX6 ∈ NST := List.mem_filter.mpr ⟨List.mem_of_getElem? (i := 179) (by decide +kernel), rfl⟩
theorem q_180 : Cond.instanceMethod yX0_init ∈ ALL := List.mem_filter.mpr ⟨List.mem_of_getElem? (i := 180) (by decide +kernel), rfl⟩
theorem q_181 : Cond.code yX0_init cX0_init 1 none ∈ ALL := List.mem_filter.mpr ⟨List.mem_of_getElem? (i := 181) (by decide +kernel), rfl⟩
theorem q_182 : Cond.methodLink RX0 3 objectInit ∈ ALL := List.mem_filter.mpr ⟨List.mem_of_getElem? (i := 182) (by decide +kernel), rfl⟩
theorem q_183 : Cond.classLink RX0 9 RX2 ∈ ALL := List.mem_filter.mpr ⟨List.mem_of_getElem? (i := 183) (by decide +kernel), rfl⟩
theorem q_184 : Cond.methodLinkNest RX0 11 yX2_init RX6 ∈ NST := List.mem_filter.mpr ⟨List.mem_of_getElem? (i := 184) (by decide +kernel), rfl⟩
theorem q_185 : Cond.fieldLink RX0 14 "StringVotes$Book" "entries" "LStringVotes$Row;" ∈ ALL := List.mem_filter.mpr ⟨List.mem_of_getElem? (i := 185) (by decide +kernel), rfl⟩
theorem q_186 : Cond.fieldLink RX0 24 "StringVotes$Book" "sessions" "I" ∈ ALL := List.mem_filter.mpr ⟨List.mem_of_getElem? (i := 186) (by decide +kernel), rfl⟩
theorem q_187 : Cond.fieldLinkNest RX1 131 "StringVotes$Book" "sessions" "I" RX6 ∈ NST := List.mem_filter.mpr ⟨List.mem_of_getElem? (i := 187) (by decide +kernel), rfl⟩
theorem q_188 : Cond.fieldLinkNest RX6 224 "StringVotes$Book" "sessions" "I" RX6 ∈ NST := List.mem_filter.mpr ⟨List.mem_of_getElem? (i := 188) (by decide +kernel), rfl⟩
theorem q_189 : Cond.fieldLink RX0 28 "StringVotes$Book" "passed" "I" ∈ ALL := List.mem_filter.mpr ⟨List.mem_of_getElem? (i := 189) (by decide +kernel), rfl⟩
theorem q_190 : Cond.fieldLinkNest RX6 227 "StringVotes$Book" "passed" "I" RX6 ∈ NST := List.mem_filter.mpr ⟨List.mem_of_getElem? (i := 190) (by decide +kernel), rfl⟩
theorem q_198 : Cond.fieldLink RX1 14 "StringVotes$Parliament" "seats" "LStringVotes$Row;" ∈ ALL := List.mem_filter.mpr ⟨List.mem_of_getElem? (i := 198) (by decide +kernel), rfl⟩
theorem q_199 : Cond.fieldLinkNest RX6 86 "StringVotes$Parliament" "seats" "LStringVotes$Row;" RX6 ∈ NST := List.mem_filter.mpr ⟨List.mem_of_getElem? (i := 199) (by decide +kernel), rfl⟩
theorem q_200 : Cond.fieldLink RX1 20 "StringVotes$Parliament" "leaning" "LStringVotes$Row;" ∈ ALL := List.mem_filter.mpr ⟨List.mem_of_getElem? (i := 200) (by decide +kernel), rfl⟩
theorem q_201 : Cond.fieldLinkNest RX6 89 "StringVotes$Parliament" "leaning" "LStringVotes$Row;" RX6 ∈ NST := List.mem_filter.mpr ⟨List.mem_of_getElem? (i := 201) (by decide +kernel), rfl⟩
theorem q_202 : Cond.fieldLink RX1 23 "StringVotes$Parliament" "pulled" "LStringVotes$Row;" ∈ ALL := List.mem_filter.mpr ⟨List.mem_of_getElem? (i := 202) (by decide +kernel), rfl⟩
theorem q_203 : Cond.fieldLinkNest RX6 95 "StringVotes$Parliament" "pulled" "LStringVotes$Row;" RX6 ∈ NST := List.mem_filter.mpr ⟨List.mem_of_getElem? (i := 203) (by decide +kernel), rfl⟩
theorem q_204 : Cond.fieldLink RX1 26 "StringVotes$Parliament" "lowest" "LStringVotes$Row;" ∈ ALL := List.mem_filter.mpr ⟨List.mem_of_getElem? (i := 204) (by decide +kernel), rfl⟩
theorem q_205 : Cond.fieldLinkNest RX6 77 "StringVotes$Parliament" "lowest" "LStringVotes$Row;" RX6 ∈ NST := List.mem_filter.mpr ⟨List.mem_of_getElem? (i := 205) (by decide +kernel), rfl⟩
theorem q_206 : Cond.fieldLink RX1 29 "StringVotes$Parliament" "side" "LStringVotes$Row;" ∈ ALL := List.mem_filter.mpr ⟨List.mem_of_getElem? (i := 206) (by decide +kernel), rfl⟩
theorem q_207 : Cond.fieldLinkNest RX6 102 "StringVotes$Parliament" "side" "LStringVotes$Row;" RX6 ∈ NST := List.mem_filter.mpr ⟨List.mem_of_getElem? (i := 207) (by decide +kernel), rfl⟩
theorem q_208 : Cond.fieldLink RX1 32 "StringVotes$Parliament" "vote" "LStringVotes$Row;" ∈ ALL := List.mem_filter.mpr ⟨List.mem_of_getElem? (i := 208) (by decide +kernel), rfl⟩
theorem q_209 : Cond.fieldLinkNest RX6 99 "StringVotes$Parliament" "vote" "LStringVotes$Row;" RX6 ∈ NST := List.mem_filter.mpr ⟨List.mem_of_getElem? (i := 209) (by decide +kernel), rfl⟩
theorem q_210 : Cond.fieldLink RX1 38 "StringVotes$Parliament" "strings" "LStringVotes$Strings;" ∈ ALL := List.mem_filter.mpr ⟨List.mem_of_getElem? (i := 210) (by decide +kernel), rfl⟩
theorem q_211 : Cond.fieldLinkNest RX6 105 "StringVotes$Parliament" "strings" "LStringVotes$Strings;" RX6 ∈ NST := List.mem_filter.mpr ⟨List.mem_of_getElem? (i := 211) (by decide +kernel), rfl⟩
theorem q_212 : Cond.fieldLink RX1 45 "StringVotes$Parliament" "book" "LStringVotes$Book;" ∈ ALL := List.mem_filter.mpr ⟨List.mem_of_getElem? (i := 212) (by decide +kernel), rfl⟩
theorem q_213 : Cond.fieldLinkNest RX6 152 "StringVotes$Parliament" "book" "LStringVotes$Book;" RX6 ∈ NST := List.mem_filter.mpr ⟨List.mem_of_getElem? (i := 213) (by decide +kernel), rfl⟩
theorem q_214 : Cond.fieldLinkNest RX5 35 "StringVotes$Parliament" "puppets" "I" RX6 ∈ NST := List.mem_filter.mpr ⟨List.mem_of_getElem? (i := 214) (by decide +kernel), rfl⟩
theorem q_215 : Cond.fieldLink RX1 63 "StringVotes$Parliament" "puppets" "I" ∈ ALL := List.mem_filter.mpr ⟨List.mem_of_getElem? (i := 215) (by decide +kernel), rfl⟩
theorem q_216 : Cond.fieldLinkNest RX6 178 "StringVotes$Parliament" "puppets" "I" RX6 ∈ NST := List.mem_filter.mpr ⟨List.mem_of_getElem? (i := 216) (by decide +kernel), rfl⟩
theorem q_217 : Cond.fieldLink RX1 66 "StringVotes$Parliament" "speaker" "I" ∈ ALL := List.mem_filter.mpr ⟨List.mem_of_getElem? (i := 217) (by decide +kernel), rfl⟩
theorem q_218 : Cond.fieldLinkNest RX6 218 "StringVotes$Parliament" "speaker" "I" RX6 ∈ NST := List.mem_filter.mpr ⟨List.mem_of_getElem? (i := 218) (by decide +kernel), rfl⟩
theorem q_219 : Cond.fieldLink RX1 49 "StringVotes$Parliament" "pullsBound" "I" ∈ ALL := List.mem_filter.mpr ⟨List.mem_of_getElem? (i := 219) (by decide +kernel), rfl⟩
theorem q_220 : Cond.fieldLinkNest RX6 239 "StringVotes$Parliament" "pullsBound" "I" RX6 ∈ NST := List.mem_filter.mpr ⟨List.mem_of_getElem? (i := 220) (by decide +kernel), rfl⟩
theorem q_221 : Cond.fieldLinkNest RX5 26 "StringVotes$Parliament" "allSeats" "I" RX6 ∈ NST := List.mem_filter.mpr ⟨List.mem_of_getElem? (i := 221) (by decide +kernel), rfl⟩
theorem q_222 : Cond.fieldLink RX1 69 "StringVotes$Parliament" "allSeats" "I" ∈ ALL := List.mem_filter.mpr ⟨List.mem_of_getElem? (i := 222) (by decide +kernel), rfl⟩
theorem q_223 : Cond.fieldLinkNest RX6 201 "StringVotes$Parliament" "allSeats" "I" RX6 ∈ NST := List.mem_filter.mpr ⟨List.mem_of_getElem? (i := 223) (by decide +kernel), rfl⟩
theorem q_224 : Cond.fieldLinkNest RX5 20 "StringVotes$Parliament" "yesSeats" "I" RX6 ∈ NST := List.mem_filter.mpr ⟨List.mem_of_getElem? (i := 224) (by decide +kernel), rfl⟩
theorem q_225 : Cond.fieldLink RX1 72 "StringVotes$Parliament" "yesSeats" "I" ∈ ALL := List.mem_filter.mpr ⟨List.mem_of_getElem? (i := 225) (by decide +kernel), rfl⟩
theorem q_226 : Cond.fieldLinkNest RX6 174 "StringVotes$Parliament" "yesSeats" "I" RX6 ∈ NST := List.mem_filter.mpr ⟨List.mem_of_getElem? (i := 226) (by decide +kernel), rfl⟩
theorem q_255 : Cond.classLink RX6 23 RX5 ∈ ALL := List.mem_filter.mpr ⟨List.mem_of_getElem? (i := 255) (by decide +kernel), rfl⟩
theorem q_256 : Cond.instantiable RX5 3 ∈ ALL := List.mem_filter.mpr ⟨List.mem_of_getElem? (i := 256) (by decide +kernel), rfl⟩
theorem q_257 : Cond.methodLinkNest RX6 25 yX5_init RX6 ∈ NST := List.mem_filter.mpr ⟨List.mem_of_getElem? (i := 257) (by decide +kernel), rfl⟩
theorem q_258 : Cond.instanceMethod yX5_init ∈ ALL := List.mem_filter.mpr ⟨List.mem_of_getElem? (i := 258) (by decide +kernel), rfl⟩
theorem q_259 : Cond.code yX5_init cX5_init 1 none ∈ ALL := List.mem_filter.mpr ⟨List.mem_of_getElem? (i := 259) (by decide +kernel), rfl⟩
theorem q_260 : Cond.methodLink RX5 3 objectInit ∈ ALL := List.mem_filter.mpr ⟨List.mem_of_getElem? (i := 260) (by decide +kernel), rfl⟩
theorem q_261 : Cond.classLink RX5 9 RX2 ∈ ALL := List.mem_filter.mpr ⟨List.mem_of_getElem? (i := 261) (by decide +kernel), rfl⟩
theorem q_262 : Cond.methodLinkNest RX5 11 yX2_init RX6 ∈ NST := List.mem_filter.mpr ⟨List.mem_of_getElem? (i := 262) (by decide +kernel), rfl⟩
theorem q_263 : Cond.fieldLink RX5 14 "StringVotes$Turns" "gains" "LStringVotes$Row;" ∈ ALL := List.mem_filter.mpr ⟨List.mem_of_getElem? (i := 263) (by decide +kernel), rfl⟩
theorem q_264 : Cond.fieldLink RX5 32 "StringVotes$Turns" "groups" "I" ∈ ALL := List.mem_filter.mpr ⟨List.mem_of_getElem? (i := 264) (by decide +kernel), rfl⟩
theorem q_265 : Cond.fieldLink RX5 29 "StringVotes$Turns" "ahead" "I" ∈ ALL := List.mem_filter.mpr ⟨List.mem_of_getElem? (i := 265) (by decide +kernel), rfl⟩
theorem q_273 : Cond.classLink RX6 30 RX4 ∈ ALL := List.mem_filter.mpr ⟨List.mem_of_getElem? (i := 273) (by decide +kernel), rfl⟩
theorem q_274 : Cond.instantiable RX4 5 ∈ ALL := List.mem_filter.mpr ⟨List.mem_of_getElem? (i := 274) (by decide +kernel), rfl⟩
theorem q_275 : Cond.methodLinkNest RX6 32 yX4_init RX6 ∈ NST := List.mem_filter.mpr ⟨List.mem_of_getElem? (i := 275) (by decide +kernel), rfl⟩
theorem q_276 : Cond.instanceMethod yX4_init ∈ ALL := List.mem_filter.mpr ⟨List.mem_of_getElem? (i := 276) (by decide +kernel), rfl⟩
theorem q_277 : Cond.code yX4_init cX4_init 1 none ∈ ALL := List.mem_filter.mpr ⟨List.mem_of_getElem? (i := 277) (by decide +kernel), rfl⟩
theorem q_278 : Cond.methodLink RX4 3 objectInit ∈ ALL := List.mem_filter.mpr ⟨List.mem_of_getElem? (i := 278) (by decide +kernel), rfl⟩
theorem q_279 : Cond.classLink RX4 9 RX2 ∈ ALL := List.mem_filter.mpr ⟨List.mem_of_getElem? (i := 279) (by decide +kernel), rfl⟩
theorem q_280 : Cond.methodLinkNest RX4 11 yX2_init RX6 ∈ NST := List.mem_filter.mpr ⟨List.mem_of_getElem? (i := 280) (by decide +kernel), rfl⟩
theorem q_281 : Cond.fieldLink RX4 14 "StringVotes$Text" "characters" "LStringVotes$Row;" ∈ ALL := List.mem_filter.mpr ⟨List.mem_of_getElem? (i := 281) (by decide +kernel), rfl⟩
theorem q_282 : Cond.fieldLink RX4 23 "StringVotes$Text" "length" "I" ∈ ALL := List.mem_filter.mpr ⟨List.mem_of_getElem? (i := 282) (by decide +kernel), rfl⟩
theorem q_283 : Cond.fieldLinkNest RX6 233 "StringVotes$Text" "length" "I" RX6 ∈ NST := List.mem_filter.mpr ⟨List.mem_of_getElem? (i := 283) (by decide +kernel), rfl⟩
theorem q_284 : Cond.fieldLink RX4 42 "StringVotes$Text" "letter" "I" ∈ ALL := List.mem_filter.mpr ⟨List.mem_of_getElem? (i := 284) (by decide +kernel), rfl⟩
theorem q_285 : Cond.fieldLinkNest RX6 285 "StringVotes$Text" "letter" "I" RX6 ∈ NST := List.mem_filter.mpr ⟨List.mem_of_getElem? (i := 285) (by decide +kernel), rfl⟩
theorem q_286 : Cond.fieldLink RX4 20 "StringVotes$Text" "numbers" "LStringVotes$Row;" ∈ ALL := List.mem_filter.mpr ⟨List.mem_of_getElem? (i := 286) (by decide +kernel), rfl⟩
theorem q_287 : Cond.fieldLinkNest RX6 282 "StringVotes$Text" "numbers" "LStringVotes$Row;" RX6 ∈ NST := List.mem_filter.mpr ⟨List.mem_of_getElem? (i := 287) (by decide +kernel), rfl⟩
theorem q_288 : Cond.fieldLink RX4 31 "StringVotes$Text" "place" "I" ∈ ALL := List.mem_filter.mpr ⟨List.mem_of_getElem? (i := 288) (by decide +kernel), rfl⟩
theorem q_289 : Cond.fieldLinkNest RX6 270 "StringVotes$Text" "place" "I" RX6 ∈ NST := List.mem_filter.mpr ⟨List.mem_of_getElem? (i := 289) (by decide +kernel), rfl⟩
theorem q_301 : Cond.fieldLink RX6 10 "StringVotes" "now" "LStringVotes$Parliament;" ∈ ALL := List.mem_filter.mpr ⟨List.mem_of_getElem? (i := 301) (by decide +kernel), rfl⟩
theorem q_302 : Cond.fieldLink RX6 16 "StringVotes" "trial" "LStringVotes$Parliament;" ∈ ALL := List.mem_filter.mpr ⟨List.mem_of_getElem? (i := 302) (by decide +kernel), rfl⟩
theorem q_303 : Cond.fieldLink RX6 19 "StringVotes" "past" "[LStringVotes$Parliament;" ∈ ALL := List.mem_filter.mpr ⟨List.mem_of_getElem? (i := 303) (by decide +kernel), rfl⟩
theorem q_304 : Cond.fieldLink RX6 291 "StringVotes" "oldestSlot" "I" ∈ ALL := List.mem_filter.mpr ⟨List.mem_of_getElem? (i := 304) (by decide +kernel), rfl⟩
theorem q_305 : Cond.fieldLink RX6 230 "StringVotes" "states" "I" ∈ ALL := List.mem_filter.mpr ⟨List.mem_of_getElem? (i := 305) (by decide +kernel), rfl⟩
theorem q_306 : Cond.fieldLink RX6 26 "StringVotes" "turns" "LStringVotes$Turns;" ∈ ALL := List.mem_filter.mpr ⟨List.mem_of_getElem? (i := 306) (by decide +kernel), rfl⟩
theorem q_307 : Cond.fieldLink RX6 33 "StringVotes" "text" "LStringVotes$Text;" ∈ ALL := List.mem_filter.mpr ⟨List.mem_of_getElem? (i := 307) (by decide +kernel), rfl⟩
theorem q_308 : Cond.fieldLink RX6 264 "StringVotes" "ordersDone" "I" ∈ ALL := List.mem_filter.mpr ⟨List.mem_of_getElem? (i := 308) (by decide +kernel), rfl⟩
theorem q_309 : Cond.fieldLink RX6 255 "StringVotes" "faultPosition" "I" ∈ ALL := List.mem_filter.mpr ⟨List.mem_of_getElem? (i := 309) (by decide +kernel), rfl⟩
theorem q_310 : Cond.fieldLink RX6 258 "StringVotes" "faultReason" "I" ∈ ALL := List.mem_filter.mpr ⟨List.mem_of_getElem? (i := 310) (by decide +kernel), rfl⟩
theorem q_311 : Cond.fieldLink RX6 261 "StringVotes" "faultCause" "I" ∈ ALL := List.mem_filter.mpr ⟨List.mem_of_getElem? (i := 311) (by decide +kernel), rfl⟩
theorem q_335 : Cond.methodLink RL 13 yX6_puppet ∈ ALL := List.mem_filter.mpr ⟨List.mem_of_getElem? (i := 335) (by decide +kernel), rfl⟩
theorem q_336 : Cond.instanceMethod yX6_puppet ∈ ALL := List.mem_filter.mpr ⟨List.mem_of_getElem? (i := 336) (by decide +kernel), rfl⟩
theorem q_337 : Cond.selects RX6 yX6_puppet yX6_puppet ∈ ALL := List.mem_filter.mpr ⟨List.mem_of_getElem? (i := 337) (by decide +kernel), rfl⟩
theorem q_338 : Cond.code yX6_puppet cX6_puppet 3 (some .int) ∈ ALL := List.mem_filter.mpr ⟨List.mem_of_getElem? (i := 338) (by decide +kernel), rfl⟩
theorem q_339 : Cond.methodLinkNest RX6 37 yX1_copyFrom RX6 ∈ NST := List.mem_filter.mpr ⟨List.mem_of_getElem? (i := 339) (by decide +kernel), rfl⟩
theorem q_341 : Cond.instanceMethod yX1_copyFrom ∈ ALL := List.mem_filter.mpr ⟨List.mem_of_getElem? (i := 341) (by decide +kernel), rfl⟩
theorem q_342 : Cond.code yX1_copyFrom cX1_copyFrom 2 none ∈ ALL := List.mem_filter.mpr ⟨List.mem_of_getElem? (i := 342) (by decide +kernel), rfl⟩
theorem q_343 : Cond.methodLinkNest RX1 53 yX2_copyFrom RX6 ∈ NST := List.mem_filter.mpr ⟨List.mem_of_getElem? (i := 343) (by decide +kernel), rfl⟩
theorem q_345 : Cond.instanceMethod yX2_copyFrom ∈ ALL := List.mem_filter.mpr ⟨List.mem_of_getElem? (i := 345) (by decide +kernel), rfl⟩
theorem q_346 : Cond.code yX2_copyFrom cX2_copyFrom 2 none ∈ ALL := List.mem_filter.mpr ⟨List.mem_of_getElem? (i := 346) (by decide +kernel), rfl⟩
theorem q_347 : Cond.methodLink RX2 19 yJ9_min_7cf53 ∈ ALL := List.mem_filter.mpr ⟨List.mem_of_getElem? (i := 347) (by decide +kernel), rfl⟩
theorem q_348 : Cond.static yJ9_min_7cf53 ∈ ALL := List.mem_filter.mpr ⟨List.mem_of_getElem? (i := 348) (by decide +kernel), rfl⟩
theorem q_349 : Cond.code yJ9_min_7cf53 cJ9_min_7cf53 2 (some .int) ∈ ALL := List.mem_filter.mpr ⟨List.mem_of_getElem? (i := 349) (by decide +kernel), rfl⟩
theorem q_350 : Cond.methodLink RX2 22 arraycopyName ∈ ALL := List.mem_filter.mpr ⟨List.mem_of_getElem? (i := 350) (by decide +kernel), rfl⟩
theorem q_351 : Cond.static arraycopyName ∈ ALL := List.mem_filter.mpr ⟨List.mem_of_getElem? (i := 351) (by decide +kernel), rfl⟩
theorem q_352 : Cond.native arraycopyName ∈ ALL := List.mem_filter.mpr ⟨List.mem_of_getElem? (i := 352) (by decide +kernel), rfl⟩
theorem q_353 : Cond.methodLinkNest RX1 57 yX3_copyFrom RX6 ∈ NST := List.mem_filter.mpr ⟨List.mem_of_getElem? (i := 353) (by decide +kernel), rfl⟩
theorem q_355 : Cond.instanceMethod yX3_copyFrom ∈ ALL := List.mem_filter.mpr ⟨List.mem_of_getElem? (i := 355) (by decide +kernel), rfl⟩
theorem q_356 : Cond.code yX3_copyFrom cX3_copyFrom 2 none ∈ ALL := List.mem_filter.mpr ⟨List.mem_of_getElem? (i := 356) (by decide +kernel), rfl⟩
theorem q_357 : Cond.methodLinkNest RX3 29 yX2_copyFrom RX6 ∈ NST := List.mem_filter.mpr ⟨List.mem_of_getElem? (i := 357) (by decide +kernel), rfl⟩
theorem q_358 : Cond.methodLinkNest RX1 60 yX0_copyFrom RX6 ∈ NST := List.mem_filter.mpr ⟨List.mem_of_getElem? (i := 358) (by decide +kernel), rfl⟩
theorem q_360 : Cond.instanceMethod yX0_copyFrom ∈ ALL := List.mem_filter.mpr ⟨List.mem_of_getElem? (i := 360) (by decide +kernel), rfl⟩
theorem q_361 : Cond.code yX0_copyFrom cX0_copyFrom 2 none ∈ ALL := List.mem_filter.mpr ⟨List.mem_of_getElem? (i := 361) (by decide +kernel), rfl⟩
theorem q_362 : Cond.methodLinkNest RX0 20 yX2_copyFrom RX6 ∈ NST := List.mem_filter.mpr ⟨List.mem_of_getElem? (i := 362) (by decide +kernel), rfl⟩
theorem q_363 : Cond.methodLinkNest RX6 41 yX1_addPuppet RX6 ∈ NST := List.mem_filter.mpr ⟨List.mem_of_getElem? (i := 363) (by decide +kernel), rfl⟩
theorem q_365 : Cond.instanceMethod yX1_addPuppet ∈ ALL := List.mem_filter.mpr ⟨List.mem_of_getElem? (i := 365) (by decide +kernel), rfl⟩
theorem q_366 : Cond.code yX1_addPuppet cX1_addPuppet 3 (some .int) ∈ ALL := List.mem_filter.mpr ⟨List.mem_of_getElem? (i := 366) (by decide +kernel), rfl⟩
theorem q_367 : Cond.methodLinkNest RX1 75 yX6_isIn RX6 ∈ NST := List.mem_filter.mpr ⟨List.mem_of_getElem? (i := 367) (by decide +kernel), rfl⟩
theorem q_368 : Cond.static yX6_isIn ∈ ALL := List.mem_filter.mpr ⟨List.mem_of_getElem? (i := 368) (by decide +kernel), rfl⟩
theorem q_369 : Cond.code yX6_isIn cX6_isIn 3 (some .boolean) ∈ ALL := List.mem_filter.mpr ⟨List.mem_of_getElem? (i := 369) (by decide +kernel), rfl⟩
theorem q_370 : Cond.constant RX1 79 (-1000001) ∈ ALL := List.mem_filter.mpr ⟨List.mem_of_getElem? (i := 370) (by decide +kernel), rfl⟩
theorem q_371 : Cond.constant RX1 80 (-1000003) ∈ ALL := List.mem_filter.mpr ⟨List.mem_of_getElem? (i := 371) (by decide +kernel), rfl⟩
theorem q_372 : Cond.methodLinkNest RX1 81 yX2_put RX6 ∈ NST := List.mem_filter.mpr ⟨List.mem_of_getElem? (i := 372) (by decide +kernel), rfl⟩
theorem q_374 : Cond.instanceMethod yX2_put ∈ ALL := List.mem_filter.mpr ⟨List.mem_of_getElem? (i := 374) (by decide +kernel), rfl⟩
theorem q_375 : Cond.code yX2_put cX2_put 3 none ∈ ALL := List.mem_filter.mpr ⟨List.mem_of_getElem? (i := 375) (by decide +kernel), rfl⟩
theorem q_376 : Cond.methodLink RX1 85 yX1_tellGroups ∈ ALL := List.mem_filter.mpr ⟨List.mem_of_getElem? (i := 376) (by decide +kernel), rfl⟩
theorem q_378 : Cond.instanceMethod yX1_tellGroups ∈ ALL := List.mem_filter.mpr ⟨List.mem_of_getElem? (i := 378) (by decide +kernel), rfl⟩
theorem q_379 : Cond.code yX1_tellGroups cX1_tellGroups 2 none ∈ ALL := List.mem_filter.mpr ⟨List.mem_of_getElem? (i := 379) (by decide +kernel), rfl⟩
theorem q_380 : Cond.methodLink RX1 142 yX1_joinBy ∈ ALL := List.mem_filter.mpr ⟨List.mem_of_getElem? (i := 380) (by decide +kernel), rfl⟩
theorem q_382 : Cond.instanceMethod yX1_joinBy ∈ ALL := List.mem_filter.mpr ⟨List.mem_of_getElem? (i := 382) (by decide +kernel), rfl⟩
theorem q_383 : Cond.code yX1_joinBy cX1_joinBy 8 none ∈ ALL := List.mem_filter.mpr ⟨List.mem_of_getElem? (i := 383) (by decide +kernel), rfl⟩
theorem q_384 : Cond.methodLinkNest RX1 128 yX2_get RX6 ∈ NST := List.mem_filter.mpr ⟨List.mem_of_getElem? (i := 384) (by decide +kernel), rfl⟩
theorem q_386 : Cond.instanceMethod yX2_get ∈ ALL := List.mem_filter.mpr ⟨List.mem_of_getElem? (i := 386) (by decide +kernel), rfl⟩
theorem q_387 : Cond.code yX2_get cX2_get 2 (some .int) ∈ ALL := List.mem_filter.mpr ⟨List.mem_of_getElem? (i := 387) (by decide +kernel), rfl⟩
theorem q_388 : Cond.methodLink RX1 151 yJ9_min_7cf53 ∈ ALL := List.mem_filter.mpr ⟨List.mem_of_getElem? (i := 388) (by decide +kernel), rfl⟩
theorem q_389 : Cond.methodLink RX1 156 yJ9_max_7cf53 ∈ ALL := List.mem_filter.mpr ⟨List.mem_of_getElem? (i := 389) (by decide +kernel), rfl⟩
theorem q_390 : Cond.methodLink RX1 88 yX1_tellVotes ∈ ALL := List.mem_filter.mpr ⟨List.mem_of_getElem? (i := 390) (by decide +kernel), rfl⟩
theorem q_392 : Cond.instanceMethod yX1_tellVotes ∈ ALL := List.mem_filter.mpr ⟨List.mem_of_getElem? (i := 392) (by decide +kernel), rfl⟩
theorem q_393 : Cond.code yX1_tellVotes cX1_tellVotes 4 none ∈ ALL := List.mem_filter.mpr ⟨List.mem_of_getElem? (i := 393) (by decide +kernel), rfl⟩
theorem q_394 : Cond.methodLink RX1 162 yX1_pulledVote ∈ ALL := List.mem_filter.mpr ⟨List.mem_of_getElem? (i := 394) (by decide +kernel), rfl⟩
theorem q_396 : Cond.instanceMethod yX1_pulledVote ∈ ALL := List.mem_filter.mpr ⟨List.mem_of_getElem? (i := 396) (by decide +kernel), rfl⟩
theorem q_397 : Cond.code yX1_pulledVote cX1_pulledVote 4 (some .int) ∈ ALL := List.mem_filter.mpr ⟨List.mem_of_getElem? (i := 397) (by decide +kernel), rfl⟩
theorem q_398 : Cond.methodLink RX1 165 yX1_leadingVote ∈ ALL := List.mem_filter.mpr ⟨List.mem_of_getElem? (i := 398) (by decide +kernel), rfl⟩
theorem q_400 : Cond.instanceMethod yX1_leadingVote ∈ ALL := List.mem_filter.mpr ⟨List.mem_of_getElem? (i := 400) (by decide +kernel), rfl⟩
theorem q_401 : Cond.code yX1_leadingVote cX1_leadingVote 5 (some .int) ∈ ALL := List.mem_filter.mpr ⟨List.mem_of_getElem? (i := 401) (by decide +kernel), rfl⟩
theorem q_402 : Cond.methodLink RX6 45 yX6_settle ∈ ALL := List.mem_filter.mpr ⟨List.mem_of_getElem? (i := 402) (by decide +kernel), rfl⟩
theorem q_404 : Cond.instanceMethod yX6_settle ∈ ALL := List.mem_filter.mpr ⟨List.mem_of_getElem? (i := 404) (by decide +kernel), rfl⟩
theorem q_405 : Cond.code yX6_settle cX6_settle 2 (some .int) ∈ ALL := List.mem_filter.mpr ⟨List.mem_of_getElem? (i := 405) (by decide +kernel), rfl⟩
theorem q_406 : Cond.methodLink RX6 279 yX6_isError ∈ ALL := List.mem_filter.mpr ⟨List.mem_of_getElem? (i := 406) (by decide +kernel), rfl⟩
theorem q_407 : Cond.static yX6_isError ∈ ALL := List.mem_filter.mpr ⟨List.mem_of_getElem? (i := 407) (by decide +kernel), rfl⟩
theorem q_408 : Cond.code yX6_isError cX6_isError 1 (some .boolean) ∈ ALL := List.mem_filter.mpr ⟨List.mem_of_getElem? (i := 408) (by decide +kernel), rfl⟩
theorem q_409 : Cond.methodLink RX6 288 yX6_remember ∈ ALL := List.mem_filter.mpr ⟨List.mem_of_getElem? (i := 409) (by decide +kernel), rfl⟩
theorem q_411 : Cond.instanceMethod yX6_remember ∈ ALL := List.mem_filter.mpr ⟨List.mem_of_getElem? (i := 411) (by decide +kernel), rfl⟩
theorem q_412 : Cond.code yX6_remember cX6_remember 2 none ∈ ALL := List.mem_filter.mpr ⟨List.mem_of_getElem? (i := 412) (by decide +kernel), rfl⟩
theorem q_413 : Cond.methodLink RX6 243 yX6_pastState ∈ ALL := List.mem_filter.mpr ⟨List.mem_of_getElem? (i := 413) (by decide +kernel), rfl⟩
theorem q_415 : Cond.instanceMethod yX6_pastState ∈ ALL := List.mem_filter.mpr ⟨List.mem_of_getElem? (i := 415) (by decide +kernel), rfl⟩
theorem q_416 : Cond.code yX6_pastState cX6_pastState 3 (some (.object "StringVotes$Parliament")) ∈ ALL := List.mem_filter.mpr ⟨List.mem_of_getElem? (i := 416) (by decide +kernel), rfl⟩
theorem q_417 : Cond.methodLink RL 18 yX6_tie ∈ ALL := List.mem_filter.mpr ⟨List.mem_of_getElem? (i := 417) (by decide +kernel), rfl⟩
theorem q_418 : Cond.instanceMethod yX6_tie ∈ ALL := List.mem_filter.mpr ⟨List.mem_of_getElem? (i := 418) (by decide +kernel), rfl⟩
theorem q_419 : Cond.selects RX6 yX6_tie yX6_tie ∈ ALL := List.mem_filter.mpr ⟨List.mem_of_getElem? (i := 419) (by decide +kernel), rfl⟩
theorem q_420 : Cond.code yX6_tie cX6_tie 5 (some .int) ∈ ALL := List.mem_filter.mpr ⟨List.mem_of_getElem? (i := 420) (by decide +kernel), rfl⟩
theorem q_421 : Cond.methodLinkNest RX6 49 yX1_addString RX6 ∈ NST := List.mem_filter.mpr ⟨List.mem_of_getElem? (i := 421) (by decide +kernel), rfl⟩
theorem q_423 : Cond.instanceMethod yX1_addString ∈ ALL := List.mem_filter.mpr ⟨List.mem_of_getElem? (i := 423) (by decide +kernel), rfl⟩
theorem q_424 : Cond.code yX1_addString cX1_addString 6 (some .int) ∈ ALL := List.mem_filter.mpr ⟨List.mem_of_getElem? (i := 424) (by decide +kernel), rfl⟩
theorem q_425 : Cond.methodLink RX1 91 yX1_arePair ∈ ALL := List.mem_filter.mpr ⟨List.mem_of_getElem? (i := 425) (by decide +kernel), rfl⟩
theorem q_427 : Cond.instanceMethod yX1_arePair ∈ ALL := List.mem_filter.mpr ⟨List.mem_of_getElem? (i := 427) (by decide +kernel), rfl⟩
theorem q_428 : Cond.code yX1_arePair cX1_arePair 3 (some .boolean) ∈ ALL := List.mem_filter.mpr ⟨List.mem_of_getElem? (i := 428) (by decide +kernel), rfl⟩
theorem q_429 : Cond.methodLink RX1 118 yX1_hasPuppet ∈ ALL := List.mem_filter.mpr ⟨List.mem_of_getElem? (i := 429) (by decide +kernel), rfl⟩
theorem q_431 : Cond.instanceMethod yX1_hasPuppet ∈ ALL := List.mem_filter.mpr ⟨List.mem_of_getElem? (i := 431) (by decide +kernel), rfl⟩
theorem q_432 : Cond.code yX1_hasPuppet cX1_hasPuppet 2 (some .boolean) ∈ ALL := List.mem_filter.mpr ⟨List.mem_of_getElem? (i := 432) (by decide +kernel), rfl⟩
theorem q_433 : Cond.methodLink RX1 95 yX1_reasonAgainstString ∈ ALL := List.mem_filter.mpr ⟨List.mem_of_getElem? (i := 433) (by decide +kernel), rfl⟩
theorem q_435 : Cond.instanceMethod yX1_reasonAgainstString ∈ ALL := List.mem_filter.mpr ⟨List.mem_of_getElem? (i := 435) (by decide +kernel), rfl⟩
theorem q_436 : Cond.code yX1_reasonAgainstString cX1_reasonAgainstString 7 (some .int) ∈ ALL := List.mem_filter.mpr ⟨List.mem_of_getElem? (i := 436) (by decide +kernel), rfl⟩
theorem q_437 : Cond.methodLinkNest RX1 168 yX3_areTied RX6 ∈ NST := List.mem_filter.mpr ⟨List.mem_of_getElem? (i := 437) (by decide +kernel), rfl⟩
theorem q_439 : Cond.instanceMethod yX3_areTied ∈ ALL := List.mem_filter.mpr ⟨List.mem_of_getElem? (i := 439) (by decide +kernel), rfl⟩
theorem q_440 : Cond.code yX3_areTied cX3_areTied 6 (some .boolean) ∈ ALL := List.mem_filter.mpr ⟨List.mem_of_getElem? (i := 440) (by decide +kernel), rfl⟩
theorem q_441 : Cond.methodLink RX3 40 yJ9_min_7cf53 ∈ ALL := List.mem_filter.mpr ⟨List.mem_of_getElem? (i := 441) (by decide +kernel), rfl⟩
theorem q_442 : Cond.methodLink RX3 50 yJ9_max_7cf53 ∈ ALL := List.mem_filter.mpr ⟨List.mem_of_getElem? (i := 442) (by decide +kernel), rfl⟩
theorem q_443 : Cond.methodLinkNest RX3 56 yX2_get RX6 ∈ NST := List.mem_filter.mpr ⟨List.mem_of_getElem? (i := 443) (by decide +kernel), rfl⟩
theorem q_444 : Cond.methodLink RX1 171 yX1_hangTogether ∈ ALL := List.mem_filter.mpr ⟨List.mem_of_getElem? (i := 444) (by decide +kernel), rfl⟩
theorem q_446 : Cond.instanceMethod yX1_hangTogether ∈ ALL := List.mem_filter.mpr ⟨List.mem_of_getElem? (i := 446) (by decide +kernel), rfl⟩
theorem q_447 : Cond.code yX1_hangTogether cX1_hangTogether 3 (some .boolean) ∈ ALL := List.mem_filter.mpr ⟨List.mem_of_getElem? (i := 447) (by decide +kernel), rfl⟩
theorem q_448 : Cond.constant RX1 99 (-1000002) ∈ ALL := List.mem_filter.mpr ⟨List.mem_of_getElem? (i := 448) (by decide +kernel), rfl⟩
theorem q_449 : Cond.methodLinkNest RX1 103 yX3_append RX6 ∈ NST := List.mem_filter.mpr ⟨List.mem_of_getElem? (i := 449) (by decide +kernel), rfl⟩
theorem q_451 : Cond.instanceMethod yX3_append ∈ ALL := List.mem_filter.mpr ⟨List.mem_of_getElem? (i := 451) (by decide +kernel), rfl⟩
theorem q_452 : Cond.code yX3_append cX3_append 5 (some .int) ∈ ALL := List.mem_filter.mpr ⟨List.mem_of_getElem? (i := 452) (by decide +kernel), rfl⟩
theorem q_453 : Cond.methodLinkNest RX3 46 yX2_put RX6 ∈ NST := List.mem_filter.mpr ⟨List.mem_of_getElem? (i := 453) (by decide +kernel), rfl⟩
theorem q_454 : Cond.methodLink RL 23 yX6_cut ∈ ALL := List.mem_filter.mpr ⟨List.mem_of_getElem? (i := 454) (by decide +kernel), rfl⟩
theorem q_455 : Cond.instanceMethod yX6_cut ∈ ALL := List.mem_filter.mpr ⟨List.mem_of_getElem? (i := 455) (by decide +kernel), rfl⟩
theorem q_456 : Cond.selects RX6 yX6_cut yX6_cut ∈ ALL := List.mem_filter.mpr ⟨List.mem_of_getElem? (i := 456) (by decide +kernel), rfl⟩
theorem q_457 : Cond.code yX6_cut cX6_cut 2 (some .int) ∈ ALL := List.mem_filter.mpr ⟨List.mem_of_getElem? (i := 457) (by decide +kernel), rfl⟩
theorem q_458 : Cond.methodLinkNest RX6 53 yX1_cutString RX6 ∈ NST := List.mem_filter.mpr ⟨List.mem_of_getElem? (i := 458) (by decide +kernel), rfl⟩
theorem q_460 : Cond.instanceMethod yX1_cutString ∈ ALL := List.mem_filter.mpr ⟨List.mem_of_getElem? (i := 460) (by decide +kernel), rfl⟩
theorem q_461 : Cond.code yX1_cutString cX1_cutString 2 (some .int) ∈ ALL := List.mem_filter.mpr ⟨List.mem_of_getElem? (i := 461) (by decide +kernel), rfl⟩
theorem q_462 : Cond.methodLinkNest RX1 107 yX3_has RX6 ∈ NST := List.mem_filter.mpr ⟨List.mem_of_getElem? (i := 462) (by decide +kernel), rfl⟩
theorem q_464 : Cond.instanceMethod yX3_has ∈ ALL := List.mem_filter.mpr ⟨List.mem_of_getElem? (i := 464) (by decide +kernel), rfl⟩
theorem q_465 : Cond.code yX3_has cX3_has 2 (some .boolean) ∈ ALL := List.mem_filter.mpr ⟨List.mem_of_getElem? (i := 465) (by decide +kernel), rfl⟩
theorem q_466 : Cond.methodLinkNest RX1 111 yX3_removeAt RX6 ∈ NST := List.mem_filter.mpr ⟨List.mem_of_getElem? (i := 466) (by decide +kernel), rfl⟩
theorem q_468 : Cond.instanceMethod yX3_removeAt ∈ ALL := List.mem_filter.mpr ⟨List.mem_of_getElem? (i := 468) (by decide +kernel), rfl⟩
theorem q_469 : Cond.code yX3_removeAt cX3_removeAt 2 none ∈ ALL := List.mem_filter.mpr ⟨List.mem_of_getElem? (i := 469) (by decide +kernel), rfl⟩
theorem q_470 : Cond.methodLinkNest RX3 53 yX2_removeAt RX6 ∈ NST := List.mem_filter.mpr ⟨List.mem_of_getElem? (i := 470) (by decide +kernel), rfl⟩
theorem q_472 : Cond.instanceMethod yX2_removeAt ∈ ALL := List.mem_filter.mpr ⟨List.mem_of_getElem? (i := 472) (by decide +kernel), rfl⟩
theorem q_473 : Cond.code yX2_removeAt cX2_removeAt 3 none ∈ ALL := List.mem_filter.mpr ⟨List.mem_of_getElem? (i := 473) (by decide +kernel), rfl⟩
theorem q_474 : Cond.methodLink RL 28 yX6_cutDeal ∈ ALL := List.mem_filter.mpr ⟨List.mem_of_getElem? (i := 474) (by decide +kernel), rfl⟩
theorem q_475 : Cond.instanceMethod yX6_cutDeal ∈ ALL := List.mem_filter.mpr ⟨List.mem_of_getElem? (i := 475) (by decide +kernel), rfl⟩
theorem q_476 : Cond.selects RX6 yX6_cutDeal yX6_cutDeal ∈ ALL := List.mem_filter.mpr ⟨List.mem_of_getElem? (i := 476) (by decide +kernel), rfl⟩
theorem q_477 : Cond.code yX6_cutDeal cX6_cutDeal 2 (some .int) ∈ ALL := List.mem_filter.mpr ⟨List.mem_of_getElem? (i := 477) (by decide +kernel), rfl⟩
theorem q_478 : Cond.methodLinkNest RX6 56 yX1_cutStringsOf RX6 ∈ NST := List.mem_filter.mpr ⟨List.mem_of_getElem? (i := 478) (by decide +kernel), rfl⟩
theorem q_480 : Cond.instanceMethod yX1_cutStringsOf ∈ ALL := List.mem_filter.mpr ⟨List.mem_of_getElem? (i := 480) (by decide +kernel), rfl⟩
theorem q_481 : Cond.code yX1_cutStringsOf cX1_cutStringsOf 3 (some .int) ∈ ALL := List.mem_filter.mpr ⟨List.mem_of_getElem? (i := 481) (by decide +kernel), rfl⟩
theorem q_482 : Cond.methodLinkNest RX1 114 yX3_removeAllOf RX6 ∈ NST := List.mem_filter.mpr ⟨List.mem_of_getElem? (i := 482) (by decide +kernel), rfl⟩
theorem q_484 : Cond.instanceMethod yX3_removeAllOf ∈ ALL := List.mem_filter.mpr ⟨List.mem_of_getElem? (i := 484) (by decide +kernel), rfl⟩
theorem q_485 : Cond.code yX3_removeAllOf cX3_removeAllOf 4 (some .int) ∈ ALL := List.mem_filter.mpr ⟨List.mem_of_getElem? (i := 485) (by decide +kernel), rfl⟩
theorem q_486 : Cond.methodLink RX3 60 yX3_removeAt ∈ ALL := List.mem_filter.mpr ⟨List.mem_of_getElem? (i := 486) (by decide +kernel), rfl⟩
theorem q_487 : Cond.methodLink RL 32 yX6_pull ∈ ALL := List.mem_filter.mpr ⟨List.mem_of_getElem? (i := 487) (by decide +kernel), rfl⟩
theorem q_488 : Cond.instanceMethod yX6_pull ∈ ALL := List.mem_filter.mpr ⟨List.mem_of_getElem? (i := 488) (by decide +kernel), rfl⟩
theorem q_489 : Cond.selects RX6 yX6_pull yX6_pull ∈ ALL := List.mem_filter.mpr ⟨List.mem_of_getElem? (i := 489) (by decide +kernel), rfl⟩
theorem q_490 : Cond.code yX6_pull cX6_pull 3 (some .int) ∈ ALL := List.mem_filter.mpr ⟨List.mem_of_getElem? (i := 490) (by decide +kernel), rfl⟩
theorem q_491 : Cond.methodLinkNest RX6 59 yX1_pullTo RX6 ∈ NST := List.mem_filter.mpr ⟨List.mem_of_getElem? (i := 491) (by decide +kernel), rfl⟩
theorem q_493 : Cond.instanceMethod yX1_pullTo ∈ ALL := List.mem_filter.mpr ⟨List.mem_of_getElem? (i := 493) (by decide +kernel), rfl⟩
theorem q_494 : Cond.code yX1_pullTo cX1_pullTo 3 (some .int) ∈ ALL := List.mem_filter.mpr ⟨List.mem_of_getElem? (i := 494) (by decide +kernel), rfl⟩
theorem q_495 : Cond.methodLink RX1 121 yX1_reasonAgainstPull ∈ ALL := List.mem_filter.mpr ⟨List.mem_of_getElem? (i := 495) (by decide +kernel), rfl⟩
theorem q_497 : Cond.instanceMethod yX1_reasonAgainstPull ∈ ALL := List.mem_filter.mpr ⟨List.mem_of_getElem? (i := 497) (by decide +kernel), rfl⟩
theorem q_498 : Cond.code yX1_reasonAgainstPull cX1_reasonAgainstPull 6 (some .int) ∈ ALL := List.mem_filter.mpr ⟨List.mem_of_getElem? (i := 498) (by decide +kernel), rfl⟩
theorem q_499 : Cond.methodLink RX1 125 yX1_isPulled ∈ ALL := List.mem_filter.mpr ⟨List.mem_of_getElem? (i := 499) (by decide +kernel), rfl⟩
theorem q_501 : Cond.instanceMethod yX1_isPulled ∈ ALL := List.mem_filter.mpr ⟨List.mem_of_getElem? (i := 501) (by decide +kernel), rfl⟩
theorem q_502 : Cond.code yX1_isPulled cX1_isPulled 2 (some .boolean) ∈ ALL := List.mem_filter.mpr ⟨List.mem_of_getElem? (i := 502) (by decide +kernel), rfl⟩
theorem q_503 : Cond.methodLink RL 36 yX6_release ∈ ALL := List.mem_filter.mpr ⟨List.mem_of_getElem? (i := 503) (by decide +kernel), rfl⟩
theorem q_504 : Cond.instanceMethod yX6_release ∈ ALL := List.mem_filter.mpr ⟨List.mem_of_getElem? (i := 504) (by decide +kernel), rfl⟩
theorem q_505 : Cond.selects RX6 yX6_release yX6_release ∈ ALL := List.mem_filter.mpr ⟨List.mem_of_getElem? (i := 505) (by decide +kernel), rfl⟩
theorem q_506 : Cond.code yX6_release cX6_release 2 (some .int) ∈ ALL := List.mem_filter.mpr ⟨List.mem_of_getElem? (i := 506) (by decide +kernel), rfl⟩
theorem q_507 : Cond.methodLinkNest RX6 62 yX1_letGo RX6 ∈ NST := List.mem_filter.mpr ⟨List.mem_of_getElem? (i := 507) (by decide +kernel), rfl⟩
theorem q_509 : Cond.instanceMethod yX1_letGo ∈ ALL := List.mem_filter.mpr ⟨List.mem_of_getElem? (i := 509) (by decide +kernel), rfl⟩
theorem q_510 : Cond.code yX1_letGo cX1_letGo 3 (some .int) ∈ ALL := List.mem_filter.mpr ⟨List.mem_of_getElem? (i := 510) (by decide +kernel), rfl⟩
theorem q_511 : Cond.methodLink RL 40 yX6_session ∈ ALL := List.mem_filter.mpr ⟨List.mem_of_getElem? (i := 511) (by decide +kernel), rfl⟩
theorem q_512 : Cond.instanceMethod yX6_session ∈ ALL := List.mem_filter.mpr ⟨List.mem_of_getElem? (i := 512) (by decide +kernel), rfl⟩
theorem q_513 : Cond.selects RX6 yX6_session yX6_session ∈ ALL := List.mem_filter.mpr ⟨List.mem_of_getElem? (i := 513) (by decide +kernel), rfl⟩
theorem q_514 : Cond.code yX6_session cX6_session 1 (some .int) ∈ ALL := List.mem_filter.mpr ⟨List.mem_of_getElem? (i := 514) (by decide +kernel), rfl⟩
theorem q_515 : Cond.methodLinkNest RX6 65 yX1_holdSession RX6 ∈ NST := List.mem_filter.mpr ⟨List.mem_of_getElem? (i := 515) (by decide +kernel), rfl⟩
theorem q_517 : Cond.instanceMethod yX1_holdSession ∈ ALL := List.mem_filter.mpr ⟨List.mem_of_getElem? (i := 517) (by decide +kernel), rfl⟩
theorem q_518 : Cond.code yX1_holdSession cX1_holdSession 3 (some .int) ∈ ALL := List.mem_filter.mpr ⟨List.mem_of_getElem? (i := 518) (by decide +kernel), rfl⟩
theorem q_519 : Cond.methodLink RX1 134 yX1_wouldPass ∈ ALL := List.mem_filter.mpr ⟨List.mem_of_getElem? (i := 519) (by decide +kernel), rfl⟩
theorem q_521 : Cond.instanceMethod yX1_wouldPass ∈ ALL := List.mem_filter.mpr ⟨List.mem_of_getElem? (i := 521) (by decide +kernel), rfl⟩
theorem q_522 : Cond.code yX1_wouldPass cX1_wouldPass 2 (some .int) ∈ ALL := List.mem_filter.mpr ⟨List.mem_of_getElem? (i := 522) (by decide +kernel), rfl⟩
theorem q_523 : Cond.methodLinkNest RX1 138 yX0_enter RX6 ∈ NST := List.mem_filter.mpr ⟨List.mem_of_getElem? (i := 523) (by decide +kernel), rfl⟩
theorem q_525 : Cond.instanceMethod yX0_enter ∈ ALL := List.mem_filter.mpr ⟨List.mem_of_getElem? (i := 525) (by decide +kernel), rfl⟩
theorem q_526 : Cond.code yX0_enter cX0_enter 6 none ∈ ALL := List.mem_filter.mpr ⟨List.mem_of_getElem? (i := 526) (by decide +kernel), rfl⟩
theorem q_527 : Cond.methodLinkNest RX0 37 yX2_get RX6 ∈ NST := List.mem_filter.mpr ⟨List.mem_of_getElem? (i := 527) (by decide +kernel), rfl⟩
theorem q_528 : Cond.methodLinkNest RX0 41 yX2_put RX6 ∈ NST := List.mem_filter.mpr ⟨List.mem_of_getElem? (i := 528) (by decide +kernel), rfl⟩
theorem q_529 : Cond.methodLink RL 45 yX6_set ∈ ALL := List.mem_filter.mpr ⟨List.mem_of_getElem? (i := 529) (by decide +kernel), rfl⟩
theorem q_530 : Cond.instanceMethod yX6_set ∈ ALL := List.mem_filter.mpr ⟨List.mem_of_getElem? (i := 530) (by decide +kernel), rfl⟩
theorem q_531 : Cond.selects RX6 yX6_set yX6_set ∈ ALL := List.mem_filter.mpr ⟨List.mem_of_getElem? (i := 531) (by decide +kernel), rfl⟩
theorem q_532 : Cond.code yX6_set cX6_set 3 (some .int) ∈ ALL := List.mem_filter.mpr ⟨List.mem_of_getElem? (i := 532) (by decide +kernel), rfl⟩
theorem q_533 : Cond.constant RX6 69 (-1000001) ∈ ALL := List.mem_filter.mpr ⟨List.mem_of_getElem? (i := 533) (by decide +kernel), rfl⟩
theorem q_534 : Cond.methodLinkNest RX6 70 yX1_bindPulls RX6 ∈ NST := List.mem_filter.mpr ⟨List.mem_of_getElem? (i := 534) (by decide +kernel), rfl⟩
theorem q_536 : Cond.instanceMethod yX1_bindPulls ∈ ALL := List.mem_filter.mpr ⟨List.mem_of_getElem? (i := 536) (by decide +kernel), rfl⟩
theorem q_537 : Cond.code yX1_bindPulls cX1_bindPulls 3 (some .int) ∈ ALL := List.mem_filter.mpr ⟨List.mem_of_getElem? (i := 537) (by decide +kernel), rfl⟩
theorem q_538 : Cond.methodLink RL 49 yX6_puppetOf ∈ ALL := List.mem_filter.mpr ⟨List.mem_of_getElem? (i := 538) (by decide +kernel), rfl⟩
theorem q_539 : Cond.instanceMethod yX6_puppetOf ∈ ALL := List.mem_filter.mpr ⟨List.mem_of_getElem? (i := 539) (by decide +kernel), rfl⟩
theorem q_540 : Cond.selects RX6 yX6_puppetOf yX6_puppetOf ∈ ALL := List.mem_filter.mpr ⟨List.mem_of_getElem? (i := 540) (by decide +kernel), rfl⟩
theorem q_541 : Cond.code yX6_puppetOf cX6_puppetOf 4 (some .int) ∈ ALL := List.mem_filter.mpr ⟨List.mem_of_getElem? (i := 541) (by decide +kernel), rfl⟩
theorem q_542 : Cond.methodLinkNest RX6 73 yX1_hasPuppet RX6 ∈ NST := List.mem_filter.mpr ⟨List.mem_of_getElem? (i := 542) (by decide +kernel), rfl⟩
theorem q_543 : Cond.methodLinkNest RX6 81 yX2_get RX6 ∈ NST := List.mem_filter.mpr ⟨List.mem_of_getElem? (i := 543) (by decide +kernel), rfl⟩
theorem q_544 : Cond.methodLinkNest RX6 92 yX1_isPulled RX6 ∈ NST := List.mem_filter.mpr ⟨List.mem_of_getElem? (i := 544) (by decide +kernel), rfl⟩
theorem q_545 : Cond.constant RX6 98 (-1000004) ∈ ALL := List.mem_filter.mpr ⟨List.mem_of_getElem? (i := 545) (by decide +kernel), rfl⟩
theorem q_546 : Cond.methodLinkNest RX6 109 yX3_howManyAt RX6 ∈ NST := List.mem_filter.mpr ⟨List.mem_of_getElem? (i := 546) (by decide +kernel), rfl⟩
theorem q_548 : Cond.instanceMethod yX3_howManyAt ∈ ALL := List.mem_filter.mpr ⟨List.mem_of_getElem? (i := 548) (by decide +kernel), rfl⟩
theorem q_549 : Cond.code yX3_howManyAt cX3_howManyAt 4 (some .int) ∈ ALL := List.mem_filter.mpr ⟨List.mem_of_getElem? (i := 549) (by decide +kernel), rfl⟩
theorem q_550 : Cond.methodLinkNest RX6 114 yX1_membersOf RX6 ∈ NST := List.mem_filter.mpr ⟨List.mem_of_getElem? (i := 550) (by decide +kernel), rfl⟩
theorem q_552 : Cond.instanceMethod yX1_membersOf ∈ ALL := List.mem_filter.mpr ⟨List.mem_of_getElem? (i := 552) (by decide +kernel), rfl⟩
theorem q_553 : Cond.code yX1_membersOf cX1_membersOf 4 (some .int) ∈ ALL := List.mem_filter.mpr ⟨List.mem_of_getElem? (i := 553) (by decide +kernel), rfl⟩
theorem q_554 : Cond.methodLinkNest RX6 117 yX1_seatsIn RX6 ∈ NST := List.mem_filter.mpr ⟨List.mem_of_getElem? (i := 554) (by decide +kernel), rfl⟩
theorem q_556 : Cond.instanceMethod yX1_seatsIn ∈ ALL := List.mem_filter.mpr ⟨List.mem_of_getElem? (i := 556) (by decide +kernel), rfl⟩
theorem q_557 : Cond.code yX1_seatsIn cX1_seatsIn 4 (some .int) ∈ ALL := List.mem_filter.mpr ⟨List.mem_of_getElem? (i := 557) (by decide +kernel), rfl⟩
theorem q_558 : Cond.methodLinkNest RX1 174 yX6_isMember RX6 ∈ NST := List.mem_filter.mpr ⟨List.mem_of_getElem? (i := 558) (by decide +kernel), rfl⟩
theorem q_559 : Cond.static yX6_isMember ∈ ALL := List.mem_filter.mpr ⟨List.mem_of_getElem? (i := 559) (by decide +kernel), rfl⟩
theorem q_560 : Cond.code yX6_isMember cX6_isMember 2 (some .boolean) ∈ ALL := List.mem_filter.mpr ⟨List.mem_of_getElem? (i := 560) (by decide +kernel), rfl⟩
theorem q_561 : Cond.methodLink RL 53 yX6_stringOf ∈ ALL := List.mem_filter.mpr ⟨List.mem_of_getElem? (i := 561) (by decide +kernel), rfl⟩
theorem q_562 : Cond.instanceMethod yX6_stringOf ∈ ALL := List.mem_filter.mpr ⟨List.mem_of_getElem? (i := 562) (by decide +kernel), rfl⟩
theorem q_563 : Cond.selects RX6 yX6_stringOf yX6_stringOf ∈ ALL := List.mem_filter.mpr ⟨List.mem_of_getElem? (i := 563) (by decide +kernel), rfl⟩
theorem q_564 : Cond.code yX6_stringOf cX6_stringOf 3 (some .int) ∈ ALL := List.mem_filter.mpr ⟨List.mem_of_getElem? (i := 564) (by decide +kernel), rfl⟩
theorem q_565 : Cond.methodLinkNest RX6 120 yX3_has RX6 ∈ NST := List.mem_filter.mpr ⟨List.mem_of_getElem? (i := 565) (by decide +kernel), rfl⟩
theorem q_566 : Cond.methodLink RX6 135 yX6_hangTogetherWithout ∈ ALL := List.mem_filter.mpr ⟨List.mem_of_getElem? (i := 566) (by decide +kernel), rfl⟩
theorem q_568 : Cond.instanceMethod yX6_hangTogetherWithout ∈ ALL := List.mem_filter.mpr ⟨List.mem_of_getElem? (i := 568) (by decide +kernel), rfl⟩
theorem q_569 : Cond.code yX6_hangTogetherWithout cX6_hangTogetherWithout 2 (some .boolean) ∈ ALL := List.mem_filter.mpr ⟨List.mem_of_getElem? (i := 569) (by decide +kernel), rfl⟩
theorem q_570 : Cond.methodLinkNest RX6 138 yX1_hangTogether RX6 ∈ NST := List.mem_filter.mpr ⟨List.mem_of_getElem? (i := 570) (by decide +kernel), rfl⟩
theorem q_571 : Cond.methodLink RL 57 yX6_between ∈ ALL := List.mem_filter.mpr ⟨List.mem_of_getElem? (i := 571) (by decide +kernel), rfl⟩
theorem q_572 : Cond.instanceMethod yX6_between ∈ ALL := List.mem_filter.mpr ⟨List.mem_of_getElem? (i := 572) (by decide +kernel), rfl⟩
theorem q_573 : Cond.selects RX6 yX6_between yX6_between ∈ ALL := List.mem_filter.mpr ⟨List.mem_of_getElem? (i := 573) (by decide +kernel), rfl⟩
theorem q_574 : Cond.code yX6_between cX6_between 5 (some .int) ∈ ALL := List.mem_filter.mpr ⟨List.mem_of_getElem? (i := 574) (by decide +kernel), rfl⟩
theorem q_575 : Cond.methodLink RX6 142 yX6_isMember ∈ ALL := List.mem_filter.mpr ⟨List.mem_of_getElem? (i := 575) (by decide +kernel), rfl⟩
theorem q_576 : Cond.methodLinkNest RX6 145 yX3_oneStringFurther RX6 ∈ NST := List.mem_filter.mpr ⟨List.mem_of_getElem? (i := 576) (by decide +kernel), rfl⟩
theorem q_578 : Cond.instanceMethod yX3_oneStringFurther ∈ ALL := List.mem_filter.mpr ⟨List.mem_of_getElem? (i := 578) (by decide +kernel), rfl⟩
theorem q_579 : Cond.code yX3_oneStringFurther cX3_oneStringFurther 5 (some .int) ∈ ALL := List.mem_filter.mpr ⟨List.mem_of_getElem? (i := 579) (by decide +kernel), rfl⟩
theorem q_580 : Cond.methodLink RL 61 yX6_book ∈ ALL := List.mem_filter.mpr ⟨List.mem_of_getElem? (i := 580) (by decide +kernel), rfl⟩
theorem q_581 : Cond.instanceMethod yX6_book ∈ ALL := List.mem_filter.mpr ⟨List.mem_of_getElem? (i := 581) (by decide +kernel), rfl⟩
theorem q_582 : Cond.selects RX6 yX6_book yX6_book ∈ ALL := List.mem_filter.mpr ⟨List.mem_of_getElem? (i := 582) (by decide +kernel), rfl⟩
theorem q_583 : Cond.code yX6_book cX6_book 3 (some .int) ∈ ALL := List.mem_filter.mpr ⟨List.mem_of_getElem? (i := 583) (by decide +kernel), rfl⟩
theorem q_584 : Cond.methodLink RX6 148 yX6_isIn ∈ ALL := List.mem_filter.mpr ⟨List.mem_of_getElem? (i := 584) (by decide +kernel), rfl⟩
theorem q_585 : Cond.methodLinkNest RX6 156 yX0_kept RX6 ∈ NST := List.mem_filter.mpr ⟨List.mem_of_getElem? (i := 585) (by decide +kernel), rfl⟩
theorem q_587 : Cond.instanceMethod yX0_kept ∈ ALL := List.mem_filter.mpr ⟨List.mem_of_getElem? (i := 587) (by decide +kernel), rfl⟩
theorem q_588 : Cond.code yX0_kept cX0_kept 1 (some .int) ∈ ALL := List.mem_filter.mpr ⟨List.mem_of_getElem? (i := 588) (by decide +kernel), rfl⟩
theorem q_589 : Cond.methodLink RX0 31 yJ9_min_7cf53 ∈ ALL := List.mem_filter.mpr ⟨List.mem_of_getElem? (i := 589) (by decide +kernel), rfl⟩
theorem q_590 : Cond.methodLinkNest RX6 161 yX0_entry RX6 ∈ NST := List.mem_filter.mpr ⟨List.mem_of_getElem? (i := 590) (by decide +kernel), rfl⟩
theorem q_592 : Cond.instanceMethod yX0_entry ∈ ALL := List.mem_filter.mpr ⟨List.mem_of_getElem? (i := 592) (by decide +kernel), rfl⟩
theorem q_593 : Cond.code yX0_entry cX0_entry 3 (some .int) ∈ ALL := List.mem_filter.mpr ⟨List.mem_of_getElem? (i := 593) (by decide +kernel), rfl⟩
theorem q_594 : Cond.methodLink RL 65 yX6_whyTie ∈ ALL := List.mem_filter.mpr ⟨List.mem_of_getElem? (i := 594) (by decide +kernel), rfl⟩
theorem q_595 : Cond.instanceMethod yX6_whyTie ∈ ALL := List.mem_filter.mpr ⟨List.mem_of_getElem? (i := 595) (by decide +kernel), rfl⟩
theorem q_596 : Cond.selects RX6 yX6_whyTie yX6_whyTie ∈ ALL := List.mem_filter.mpr ⟨List.mem_of_getElem? (i := 596) (by decide +kernel), rfl⟩
theorem q_597 : Cond.code yX6_whyTie cX6_whyTie 4 (some .int) ∈ ALL := List.mem_filter.mpr ⟨List.mem_of_getElem? (i := 597) (by decide +kernel), rfl⟩
theorem q_598 : Cond.methodLinkNest RX6 164 yX1_arePair RX6 ∈ NST := List.mem_filter.mpr ⟨List.mem_of_getElem? (i := 598) (by decide +kernel), rfl⟩
theorem q_599 : Cond.methodLinkNest RX6 167 yX1_reasonAgainstString RX6 ∈ NST := List.mem_filter.mpr ⟨List.mem_of_getElem? (i := 599) (by decide +kernel), rfl⟩
theorem q_600 : Cond.methodLink RL 70 yX6_whyPull ∈ ALL := List.mem_filter.mpr ⟨List.mem_of_getElem? (i := 600) (by decide +kernel), rfl⟩
theorem q_601 : Cond.instanceMethod yX6_whyPull ∈ ALL := List.mem_filter.mpr ⟨List.mem_of_getElem? (i := 601) (by decide +kernel), rfl⟩
theorem q_602 : Cond.selects RX6 yX6_whyPull yX6_whyPull ∈ ALL := List.mem_filter.mpr ⟨List.mem_of_getElem? (i := 602) (by decide +kernel), rfl⟩
theorem q_603 : Cond.code yX6_whyPull cX6_whyPull 3 (some .int) ∈ ALL := List.mem_filter.mpr ⟨List.mem_of_getElem? (i := 603) (by decide +kernel), rfl⟩
theorem q_604 : Cond.methodLinkNest RX6 171 yX1_reasonAgainstPull RX6 ∈ NST := List.mem_filter.mpr ⟨List.mem_of_getElem? (i := 604) (by decide +kernel), rfl⟩
theorem q_605 : Cond.methodLink RL 74 yX6_bestPull ∈ ALL := List.mem_filter.mpr ⟨List.mem_of_getElem? (i := 605) (by decide +kernel), rfl⟩
theorem q_606 : Cond.instanceMethod yX6_bestPull ∈ ALL := List.mem_filter.mpr ⟨List.mem_of_getElem? (i := 606) (by decide +kernel), rfl⟩
theorem q_607 : Cond.selects RX6 yX6_bestPull yX6_bestPull ∈ ALL := List.mem_filter.mpr ⟨List.mem_of_getElem? (i := 607) (by decide +kernel), rfl⟩
theorem q_608 : Cond.code yX6_bestPull cX6_bestPull 6 (some .int) ∈ ALL := List.mem_filter.mpr ⟨List.mem_of_getElem? (i := 608) (by decide +kernel), rfl⟩
theorem q_609 : Cond.methodLink RX6 181 yX6_seatsIfPulled ∈ ALL := List.mem_filter.mpr ⟨List.mem_of_getElem? (i := 609) (by decide +kernel), rfl⟩
theorem q_611 : Cond.instanceMethod yX6_seatsIfPulled ∈ ALL := List.mem_filter.mpr ⟨List.mem_of_getElem? (i := 611) (by decide +kernel), rfl⟩
theorem q_612 : Cond.code yX6_seatsIfPulled cX6_seatsIfPulled 3 (some .int) ∈ ALL := List.mem_filter.mpr ⟨List.mem_of_getElem? (i := 612) (by decide +kernel), rfl⟩
theorem q_613 : Cond.methodLink RX6 184 yJ9_max_7cf53 ∈ ALL := List.mem_filter.mpr ⟨List.mem_of_getElem? (i := 613) (by decide +kernel), rfl⟩
theorem q_614 : Cond.methodLink RL 78 yX6_fewest ∈ ALL := List.mem_filter.mpr ⟨List.mem_of_getElem? (i := 614) (by decide +kernel), rfl⟩
theorem q_615 : Cond.instanceMethod yX6_fewest ∈ ALL := List.mem_filter.mpr ⟨List.mem_of_getElem? (i := 615) (by decide +kernel), rfl⟩
theorem q_616 : Cond.selects RX6 yX6_fewest yX6_fewest ∈ ALL := List.mem_filter.mpr ⟨List.mem_of_getElem? (i := 616) (by decide +kernel), rfl⟩
theorem q_617 : Cond.code yX6_fewest cX6_fewest 3 (some .int) ∈ ALL := List.mem_filter.mpr ⟨List.mem_of_getElem? (i := 617) (by decide +kernel), rfl⟩
theorem q_618 : Cond.methodLinkNest RX6 189 yX5_collect RX6 ∈ NST := List.mem_filter.mpr ⟨List.mem_of_getElem? (i := 618) (by decide +kernel), rfl⟩
theorem q_620 : Cond.instanceMethod yX5_collect ∈ ALL := List.mem_filter.mpr ⟨List.mem_of_getElem? (i := 620) (by decide +kernel), rfl⟩
theorem q_621 : Cond.code yX5_collect cX5_collect 6 none ∈ ALL := List.mem_filter.mpr ⟨List.mem_of_getElem? (i := 621) (by decide +kernel), rfl⟩
theorem q_622 : Cond.methodLinkNest RX5 38 yX1_membersOf RX6 ∈ NST := List.mem_filter.mpr ⟨List.mem_of_getElem? (i := 622) (by decide +kernel), rfl⟩
theorem q_623 : Cond.methodLinkNest RX5 42 yX1_yesVoters RX6 ∈ NST := List.mem_filter.mpr ⟨List.mem_of_getElem? (i := 623) (by decide +kernel), rfl⟩
theorem q_625 : Cond.instanceMethod yX1_yesVoters ∈ ALL := List.mem_filter.mpr ⟨List.mem_of_getElem? (i := 625) (by decide +kernel), rfl⟩
theorem q_626 : Cond.code yX1_yesVoters cX1_yesVoters 3 (some .int) ∈ ALL := List.mem_filter.mpr ⟨List.mem_of_getElem? (i := 626) (by decide +kernel), rfl⟩
theorem q_627 : Cond.methodLinkNest RX5 46 yX1_seatsIn RX6 ∈ NST := List.mem_filter.mpr ⟨List.mem_of_getElem? (i := 627) (by decide +kernel), rfl⟩
theorem q_628 : Cond.methodLinkNest RX5 49 yX2_put RX6 ∈ NST := List.mem_filter.mpr ⟨List.mem_of_getElem? (i := 628) (by decide +kernel), rfl⟩
theorem q_629 : Cond.methodLinkNest RX6 192 yX5_fewestByTheBest RX6 ∈ NST := List.mem_filter.mpr ⟨List.mem_of_getElem? (i := 629) (by decide +kernel), rfl⟩
theorem q_631 : Cond.instanceMethod yX5_fewestByTheBest ∈ ALL := List.mem_filter.mpr ⟨List.mem_of_getElem? (i := 631) (by decide +kernel), rfl⟩
theorem q_632 : Cond.code yX5_fewestByTheBest cX5_fewestByTheBest 5 (some .int) ∈ ALL := List.mem_filter.mpr ⟨List.mem_of_getElem? (i := 632) (by decide +kernel), rfl⟩
theorem q_633 : Cond.methodLink RX5 53 yX5_bestBut ∈ ALL := List.mem_filter.mpr ⟨List.mem_of_getElem? (i := 633) (by decide +kernel), rfl⟩
theorem q_635 : Cond.instanceMethod yX5_bestBut ∈ ALL := List.mem_filter.mpr ⟨List.mem_of_getElem? (i := 635) (by decide +kernel), rfl⟩
theorem q_636 : Cond.code yX5_bestBut cX5_bestBut 4 (some .int) ∈ ALL := List.mem_filter.mpr ⟨List.mem_of_getElem? (i := 636) (by decide +kernel), rfl⟩
theorem q_637 : Cond.methodLinkNest RX5 59 yX6_isMember RX6 ∈ NST := List.mem_filter.mpr ⟨List.mem_of_getElem? (i := 637) (by decide +kernel), rfl⟩
theorem q_638 : Cond.methodLinkNest RX5 56 yX2_get RX6 ∈ NST := List.mem_filter.mpr ⟨List.mem_of_getElem? (i := 638) (by decide +kernel), rfl⟩
theorem q_639 : Cond.methodLinkNest RX6 195 yX5_fewestOfAllSets RX6 ∈ NST := List.mem_filter.mpr ⟨List.mem_of_getElem? (i := 639) (by decide +kernel), rfl⟩
theorem q_641 : Cond.instanceMethod yX5_fewestOfAllSets ∈ ALL := List.mem_filter.mpr ⟨List.mem_of_getElem? (i := 641) (by decide +kernel), rfl⟩
theorem q_642 : Cond.code yX5_fewestOfAllSets cX5_fewestOfAllSets 5 (some .int) ∈ ALL := List.mem_filter.mpr ⟨List.mem_of_getElem? (i := 642) (by decide +kernel), rfl⟩
theorem q_643 : Cond.methodLink RX5 63 yX5_stepTo ∈ ALL := List.mem_filter.mpr ⟨List.mem_of_getElem? (i := 643) (by decide +kernel), rfl⟩
theorem q_645 : Cond.instanceMethod yX5_stepTo ∈ ALL := List.mem_filter.mpr ⟨List.mem_of_getElem? (i := 645) (by decide +kernel), rfl⟩
theorem q_646 : Cond.code yX5_stepTo cX5_stepTo 4 (some .int) ∈ ALL := List.mem_filter.mpr ⟨List.mem_of_getElem? (i := 646) (by decide +kernel), rfl⟩
theorem q_647 : Cond.methodLink RX5 66 yJ6_bitCount_0f7a4 ∈ ALL := List.mem_filter.mpr ⟨List.mem_of_getElem? (i := 647) (by decide +kernel), rfl⟩
theorem q_648 : Cond.static yJ6_bitCount_0f7a4 ∈ ALL := List.mem_filter.mpr ⟨List.mem_of_getElem? (i := 648) (by decide +kernel), rfl⟩
theorem q_649 : Cond.code yJ6_bitCount_0f7a4 cJ6_bitCount_0f7a4 1 (some .int) ∈ ALL := List.mem_filter.mpr ⟨List.mem_of_getElem? (i := 649) (by decide +kernel), rfl⟩
theorem q_650 : Cond.constant RJ6 265 (1431655765) ∈ ALL := List.mem_filter.mpr ⟨List.mem_of_getElem? (i := 650) (by decide +kernel), rfl⟩
theorem q_651 : Cond.constant RJ6 266 (858993459) ∈ ALL := List.mem_filter.mpr ⟨List.mem_of_getElem? (i := 651) (by decide +kernel), rfl⟩
theorem q_652 : Cond.constant RJ6 267 (252645135) ∈ ALL := List.mem_filter.mpr ⟨List.mem_of_getElem? (i := 652) (by decide +kernel), rfl⟩
theorem q_653 : Cond.methodLink RL 82 yX6_ifCut ∈ ALL := List.mem_filter.mpr ⟨List.mem_of_getElem? (i := 653) (by decide +kernel), rfl⟩
theorem q_654 : Cond.instanceMethod yX6_ifCut ∈ ALL := List.mem_filter.mpr ⟨List.mem_of_getElem? (i := 654) (by decide +kernel), rfl⟩
theorem q_655 : Cond.selects RX6 yX6_ifCut yX6_ifCut ∈ ALL := List.mem_filter.mpr ⟨List.mem_of_getElem? (i := 655) (by decide +kernel), rfl⟩
theorem q_656 : Cond.code yX6_ifCut cX6_ifCut 3 (some .int) ∈ ALL := List.mem_filter.mpr ⟨List.mem_of_getElem? (i := 656) (by decide +kernel), rfl⟩
theorem q_657 : Cond.methodLinkNest RX6 198 yX1_groupsByJoining RX6 ∈ NST := List.mem_filter.mpr ⟨List.mem_of_getElem? (i := 657) (by decide +kernel), rfl⟩
theorem q_659 : Cond.instanceMethod yX1_groupsByJoining ∈ ALL := List.mem_filter.mpr ⟨List.mem_of_getElem? (i := 659) (by decide +kernel), rfl⟩
theorem q_660 : Cond.code yX1_groupsByJoining cX1_groupsByJoining 3 (some .int) ∈ ALL := List.mem_filter.mpr ⟨List.mem_of_getElem? (i := 660) (by decide +kernel), rfl⟩
theorem q_661 : Cond.methodLink RL 86 yX6_share ∈ ALL := List.mem_filter.mpr ⟨List.mem_of_getElem? (i := 661) (by decide +kernel), rfl⟩
theorem q_662 : Cond.instanceMethod yX6_share ∈ ALL := List.mem_filter.mpr ⟨List.mem_of_getElem? (i := 662) (by decide +kernel), rfl⟩
theorem q_663 : Cond.selects RX6 yX6_share yX6_share ∈ ALL := List.mem_filter.mpr ⟨List.mem_of_getElem? (i := 663) (by decide +kernel), rfl⟩
theorem q_664 : Cond.code yX6_share cX6_share 2 (some .int) ∈ ALL := List.mem_filter.mpr ⟨List.mem_of_getElem? (i := 664) (by decide +kernel), rfl⟩
theorem q_665 : Cond.methodLink RX6 204 yX6_bitsOf ∈ ALL := List.mem_filter.mpr ⟨List.mem_of_getElem? (i := 665) (by decide +kernel), rfl⟩
theorem q_666 : Cond.static yX6_bitsOf ∈ ALL := List.mem_filter.mpr ⟨List.mem_of_getElem? (i := 666) (by decide +kernel), rfl⟩
theorem q_667 : Cond.code yX6_bitsOf cX6_bitsOf 4 (some .int) ∈ ALL := List.mem_filter.mpr ⟨List.mem_of_getElem? (i := 667) (by decide +kernel), rfl⟩
theorem q_668 : Cond.constantFloat RX6 208 1258291200 ∈ ALL := List.mem_filter.mpr ⟨List.mem_of_getElem? (i := 668) (by decide +kernel), rfl⟩
theorem q_669 : Cond.methodLink RL 90 yX6_count ∈ ALL := List.mem_filter.mpr ⟨List.mem_of_getElem? (i := 669) (by decide +kernel), rfl⟩
theorem q_670 : Cond.instanceMethod yX6_count ∈ ALL := List.mem_filter.mpr ⟨List.mem_of_getElem? (i := 670) (by decide +kernel), rfl⟩
theorem q_671 : Cond.selects RX6 yX6_count yX6_count ∈ ALL := List.mem_filter.mpr ⟨List.mem_of_getElem? (i := 671) (by decide +kernel), rfl⟩
theorem q_672 : Cond.code yX6_count cX6_count 2 (some .int) ∈ ALL := List.mem_filter.mpr ⟨List.mem_of_getElem? (i := 672) (by decide +kernel), rfl⟩
theorem q_673 : Cond.methodLinkNest RX6 212 yX1_groupsByWalking RX6 ∈ NST := List.mem_filter.mpr ⟨List.mem_of_getElem? (i := 673) (by decide +kernel), rfl⟩
theorem q_675 : Cond.instanceMethod yX1_groupsByWalking ∈ ALL := List.mem_filter.mpr ⟨List.mem_of_getElem? (i := 675) (by decide +kernel), rfl⟩
theorem q_676 : Cond.code yX1_groupsByWalking cX1_groupsByWalking 4 (some .int) ∈ ALL := List.mem_filter.mpr ⟨List.mem_of_getElem? (i := 676) (by decide +kernel), rfl⟩
theorem q_677 : Cond.methodLink RX1 177 yX1_walkFrom ∈ ALL := List.mem_filter.mpr ⟨List.mem_of_getElem? (i := 677) (by decide +kernel), rfl⟩
theorem q_679 : Cond.instanceMethod yX1_walkFrom ∈ ALL := List.mem_filter.mpr ⟨List.mem_of_getElem? (i := 679) (by decide +kernel), rfl⟩
theorem q_680 : Cond.code yX1_walkFrom cX1_walkFrom 4 (some .int) ∈ ALL := List.mem_filter.mpr ⟨List.mem_of_getElem? (i := 680) (by decide +kernel), rfl⟩
theorem q_681 : Cond.methodLinkNest RX1 180 yX3_oneStringFurther RX6 ∈ NST := List.mem_filter.mpr ⟨List.mem_of_getElem? (i := 681) (by decide +kernel), rfl⟩
theorem q_682 : Cond.methodLinkNest RX6 215 yX1_wouldPass RX6 ∈ NST := List.mem_filter.mpr ⟨List.mem_of_getElem? (i := 682) (by decide +kernel), rfl⟩
theorem q_683 : Cond.methodLinkNest RX6 221 yX1_pulledPuppets RX6 ∈ NST := List.mem_filter.mpr ⟨List.mem_of_getElem? (i := 683) (by decide +kernel), rfl⟩
theorem q_685 : Cond.instanceMethod yX1_pulledPuppets ∈ ALL := List.mem_filter.mpr ⟨List.mem_of_getElem? (i := 685) (by decide +kernel), rfl⟩
theorem q_686 : Cond.code yX1_pulledPuppets cX1_pulledPuppets 3 (some .int) ∈ ALL := List.mem_filter.mpr ⟨List.mem_of_getElem? (i := 686) (by decide +kernel), rfl⟩
theorem q_687 : Cond.methodLink RL 94 yX6_undo ∈ ALL := List.mem_filter.mpr ⟨List.mem_of_getElem? (i := 687) (by decide +kernel), rfl⟩
theorem q_688 : Cond.instanceMethod yX6_undo ∈ ALL := List.mem_filter.mpr ⟨List.mem_of_getElem? (i := 688) (by decide +kernel), rfl⟩
theorem q_689 : Cond.selects RX6 yX6_undo yX6_undo ∈ ALL := List.mem_filter.mpr ⟨List.mem_of_getElem? (i := 689) (by decide +kernel), rfl⟩
theorem q_690 : Cond.code yX6_undo cX6_undo 2 (some .int) ∈ ALL := List.mem_filter.mpr ⟨List.mem_of_getElem? (i := 690) (by decide +kernel), rfl⟩
theorem q_691 : Cond.constant RX6 242 (-1000002) ∈ ALL := List.mem_filter.mpr ⟨List.mem_of_getElem? (i := 691) (by decide +kernel), rfl⟩
theorem q_692 : Cond.methodLink RL 98 yX6_type ∈ ALL := List.mem_filter.mpr ⟨List.mem_of_getElem? (i := 692) (by decide +kernel), rfl⟩
theorem q_693 : Cond.instanceMethod yX6_type ∈ ALL := List.mem_filter.mpr ⟨List.mem_of_getElem? (i := 693) (by decide +kernel), rfl⟩
theorem q_694 : Cond.selects RX6 yX6_type yX6_type ∈ ALL := List.mem_filter.mpr ⟨List.mem_of_getElem? (i := 694) (by decide +kernel), rfl⟩
theorem q_695 : Cond.code yX6_type cX6_type 2 (some .int) ∈ ALL := List.mem_filter.mpr ⟨List.mem_of_getElem? (i := 695) (by decide +kernel), rfl⟩
theorem q_696 : Cond.methodLinkNest RX6 247 yX4_append RX6 ∈ NST := List.mem_filter.mpr ⟨List.mem_of_getElem? (i := 696) (by decide +kernel), rfl⟩
theorem q_698 : Cond.instanceMethod yX4_append ∈ ALL := List.mem_filter.mpr ⟨List.mem_of_getElem? (i := 698) (by decide +kernel), rfl⟩
theorem q_699 : Cond.code yX4_append cX4_append 2 (some .boolean) ∈ ALL := List.mem_filter.mpr ⟨List.mem_of_getElem? (i := 699) (by decide +kernel), rfl⟩
theorem q_700 : Cond.methodLinkNest RX4 27 yX2_put RX6 ∈ NST := List.mem_filter.mpr ⟨List.mem_of_getElem? (i := 700) (by decide +kernel), rfl⟩
theorem q_701 : Cond.constant RX6 250 (-1000003) ∈ ALL := List.mem_filter.mpr ⟨List.mem_of_getElem? (i := 701) (by decide +kernel), rfl⟩
theorem q_702 : Cond.methodLink RL 102 yX6_clearText ∈ ALL := List.mem_filter.mpr ⟨List.mem_of_getElem? (i := 702) (by decide +kernel), rfl⟩
theorem q_703 : Cond.instanceMethod yX6_clearText ∈ ALL := List.mem_filter.mpr ⟨List.mem_of_getElem? (i := 703) (by decide +kernel), rfl⟩
theorem q_704 : Cond.selects RX6 yX6_clearText yX6_clearText ∈ ALL := List.mem_filter.mpr ⟨List.mem_of_getElem? (i := 704) (by decide +kernel), rfl⟩
theorem q_705 : Cond.code yX6_clearText cX6_clearText 2 (some .int) ∈ ALL := List.mem_filter.mpr ⟨List.mem_of_getElem? (i := 705) (by decide +kernel), rfl⟩
theorem q_706 : Cond.methodLink RL 106 yX6_fault ∈ ALL := List.mem_filter.mpr ⟨List.mem_of_getElem? (i := 706) (by decide +kernel), rfl⟩
theorem q_707 : Cond.instanceMethod yX6_fault ∈ ALL := List.mem_filter.mpr ⟨List.mem_of_getElem? (i := 707) (by decide +kernel), rfl⟩
theorem q_708 : Cond.selects RX6 yX6_fault yX6_fault ∈ ALL := List.mem_filter.mpr ⟨List.mem_of_getElem? (i := 708) (by decide +kernel), rfl⟩
theorem q_709 : Cond.code yX6_fault cX6_fault 2 (some .int) ∈ ALL := List.mem_filter.mpr ⟨List.mem_of_getElem? (i := 709) (by decide +kernel), rfl⟩
theorem q_710 : Cond.methodLink RX6 251 yX6_tryOrders ∈ ALL := List.mem_filter.mpr ⟨List.mem_of_getElem? (i := 710) (by decide +kernel), rfl⟩
theorem q_712 : Cond.instanceMethod yX6_tryOrders ∈ ALL := List.mem_filter.mpr ⟨List.mem_of_getElem? (i := 712) (by decide +kernel), rfl⟩
theorem q_713 : Cond.code yX6_tryOrders cX6_tryOrders 4 (some .boolean) ∈ ALL := List.mem_filter.mpr ⟨List.mem_of_getElem? (i := 713) (by decide +kernel), rfl⟩
theorem q_714 : Cond.methodLinkNest RX6 267 yX4_readOrder RX6 ∈ NST := List.mem_filter.mpr ⟨List.mem_of_getElem? (i := 714) (by decide +kernel), rfl⟩
theorem q_716 : Cond.instanceMethod yX4_readOrder ∈ ALL := List.mem_filter.mpr ⟨List.mem_of_getElem? (i := 716) (by decide +kernel), rfl⟩
theorem q_717 : Cond.code yX4_readOrder cX4_readOrder 4 (some .boolean) ∈ ALL := List.mem_filter.mpr ⟨List.mem_of_getElem? (i := 717) (by decide +kernel), rfl⟩
theorem q_718 : Cond.methodLink RX4 38 yX4_current ∈ ALL := List.mem_filter.mpr ⟨List.mem_of_getElem? (i := 718) (by decide +kernel), rfl⟩
theorem q_720 : Cond.instanceMethod yX4_current ∈ ALL := List.mem_filter.mpr ⟨List.mem_of_getElem? (i := 720) (by decide +kernel), rfl⟩
theorem q_721 : Cond.code yX4_current cX4_current 1 (some .int) ∈ ALL := List.mem_filter.mpr ⟨List.mem_of_getElem? (i := 721) (by decide +kernel), rfl⟩
theorem q_722 : Cond.methodLinkNest RX4 34 yX2_get RX6 ∈ NST := List.mem_filter.mpr ⟨List.mem_of_getElem? (i := 722) (by decide +kernel), rfl⟩
theorem q_723 : Cond.methodLink RX4 45 yX4_numbersBehind ∈ ALL := List.mem_filter.mpr ⟨List.mem_of_getElem? (i := 723) (by decide +kernel), rfl⟩
theorem q_724 : Cond.static yX4_numbersBehind ∈ ALL := List.mem_filter.mpr ⟨List.mem_of_getElem? (i := 724) (by decide +kernel), rfl⟩
theorem q_725 : Cond.code yX4_numbersBehind cX4_numbersBehind 1 (some .int) ∈ ALL := List.mem_filter.mpr ⟨List.mem_of_getElem? (i := 725) (by decide +kernel), rfl⟩
theorem q_726 : Cond.methodLink RX4 48 yX4_skip ∈ ALL := List.mem_filter.mpr ⟨List.mem_of_getElem? (i := 726) (by decide +kernel), rfl⟩
theorem q_728 : Cond.instanceMethod yX4_skip ∈ ALL := List.mem_filter.mpr ⟨List.mem_of_getElem? (i := 728) (by decide +kernel), rfl⟩
theorem q_729 : Cond.code yX4_skip cX4_skip 2 (some .boolean) ∈ ALL := List.mem_filter.mpr ⟨List.mem_of_getElem? (i := 729) (by decide +kernel), rfl⟩
theorem q_730 : Cond.methodLink RX4 52 yX4_readNumber ∈ ALL := List.mem_filter.mpr ⟨List.mem_of_getElem? (i := 730) (by decide +kernel), rfl⟩
theorem q_732 : Cond.instanceMethod yX4_readNumber ∈ ALL := List.mem_filter.mpr ⟨List.mem_of_getElem? (i := 732) (by decide +kernel), rfl⟩
theorem q_733 : Cond.code yX4_readNumber cX4_readNumber 3 (some .boolean) ∈ ALL := List.mem_filter.mpr ⟨List.mem_of_getElem? (i := 733) (by decide +kernel), rfl⟩
theorem q_734 : Cond.methodLink RX4 55 yX4_isDigit ∈ ALL := List.mem_filter.mpr ⟨List.mem_of_getElem? (i := 734) (by decide +kernel), rfl⟩
theorem q_735 : Cond.static yX4_isDigit ∈ ALL := List.mem_filter.mpr ⟨List.mem_of_getElem? (i := 735) (by decide +kernel), rfl⟩
theorem q_736 : Cond.code yX4_isDigit cX4_isDigit 1 (some .boolean) ∈ ALL := List.mem_filter.mpr ⟨List.mem_of_getElem? (i := 736) (by decide +kernel), rfl⟩
theorem q_737 : Cond.methodLinkNest RX4 58 yX6_isIn RX6 ∈ NST := List.mem_filter.mpr ⟨List.mem_of_getElem? (i := 737) (by decide +kernel), rfl⟩
theorem q_738 : Cond.methodLink RX6 273 yX6_foundFault ∈ ALL := List.mem_filter.mpr ⟨List.mem_of_getElem? (i := 738) (by decide +kernel), rfl⟩
theorem q_740 : Cond.instanceMethod yX6_foundFault ∈ ALL := List.mem_filter.mpr ⟨List.mem_of_getElem? (i := 740) (by decide +kernel), rfl⟩
theorem q_741 : Cond.code yX6_foundFault cX6_foundFault 4 (some .boolean) ∈ ALL := List.mem_filter.mpr ⟨List.mem_of_getElem? (i := 741) (by decide +kernel), rfl⟩
theorem q_742 : Cond.methodLink RX6 276 yX6_obey ∈ ALL := List.mem_filter.mpr ⟨List.mem_of_getElem? (i := 742) (by decide +kernel), rfl⟩
theorem q_744 : Cond.instanceMethod yX6_obey ∈ ALL := List.mem_filter.mpr ⟨List.mem_of_getElem? (i := 744) (by decide +kernel), rfl⟩
theorem q_745 : Cond.code yX6_obey cX6_obey 4 (some .int) ∈ ALL := List.mem_filter.mpr ⟨List.mem_of_getElem? (i := 745) (by decide +kernel), rfl⟩
theorem q_746 : Cond.methodLink RL 110 yX6_play ∈ ALL := List.mem_filter.mpr ⟨List.mem_of_getElem? (i := 746) (by decide +kernel), rfl⟩
theorem q_747 : Cond.instanceMethod yX6_play ∈ ALL := List.mem_filter.mpr ⟨List.mem_of_getElem? (i := 747) (by decide +kernel), rfl⟩
theorem q_748 : Cond.selects RX6 yX6_play yX6_play ∈ ALL := List.mem_filter.mpr ⟨List.mem_of_getElem? (i := 748) (by decide +kernel), rfl⟩
theorem q_749 : Cond.code yX6_play cX6_play 1 (some .int) ∈ ALL := List.mem_filter.mpr ⟨List.mem_of_getElem? (i := 749) (by decide +kernel), rfl⟩
theorem q_750 : Cond.classLink RL 10 RX7 ∈ ALL := List.mem_filter.mpr ⟨List.mem_of_getElem? (i := 750) (by decide +kernel), rfl⟩
theorem q_751 : Cond.instantiable RX7 18 ∈ ALL := List.mem_filter.mpr ⟨List.mem_of_getElem? (i := 751) (by decide +kernel), rfl⟩
theorem q_752 : Cond.methodLink RL 12 yX7_init ∈ ALL := List.mem_filter.mpr ⟨List.mem_of_getElem? (i := 752) (by decide +kernel), rfl⟩
theorem q_753 : Cond.instanceMethod yX7_init ∈ ALL := List.mem_filter.mpr ⟨List.mem_of_getElem? (i := 753) (by decide +kernel), rfl⟩
theorem q_754 : Cond.code yX7_init cX7_init 1 none ∈ ALL := List.mem_filter.mpr ⟨List.mem_of_getElem? (i := 754) (by decide +kernel), rfl⟩
theorem q_755 : Cond.methodLink RX7 1 objectInit ∈ ALL := List.mem_filter.mpr ⟨List.mem_of_getElem? (i := 755) (by decide +kernel), rfl⟩
theorem q_756 : Cond.fieldLink RX7 7 "StringVotesModel" "s" "[I" ∈ ALL := List.mem_filter.mpr ⟨List.mem_of_getElem? (i := 756) (by decide +kernel), rfl⟩
theorem q_757 : Cond.fieldLink RX7 13 "StringVotesModel" "past" "[I" ∈ ALL := List.mem_filter.mpr ⟨List.mem_of_getElem? (i := 757) (by decide +kernel), rfl⟩
theorem q_758 : Cond.fieldLink RX7 16 "StringVotesModel" "held" "[I" ∈ ALL := List.mem_filter.mpr ⟨List.mem_of_getElem? (i := 758) (by decide +kernel), rfl⟩
theorem q_759 : Cond.fieldLink RX7 41 "StringVotesModel" "pasts" "I" ∈ ALL := List.mem_filter.mpr ⟨List.mem_of_getElem? (i := 759) (by decide +kernel), rfl⟩
theorem q_760 : Cond.fieldLink RX7 37 "StringVotesModel" "runs" "Z" ∈ ALL := List.mem_filter.mpr ⟨List.mem_of_getElem? (i := 760) (by decide +kernel), rfl⟩
theorem q_761 : Cond.fieldLink RX7 19 "StringVotesModel" "text" "[I" ∈ ALL := List.mem_filter.mpr ⟨List.mem_of_getElem? (i := 761) (by decide +kernel), rfl⟩
theorem q_762 : Cond.fieldLink RX7 160 "StringVotesModel" "typed" "I" ∈ ALL := List.mem_filter.mpr ⟨List.mem_of_getElem? (i := 762) (by decide +kernel), rfl⟩
theorem q_763 : Cond.fieldLink RX7 22 "StringVotesModel" "low" "[I" ∈ ALL := List.mem_filter.mpr ⟨List.mem_of_getElem? (i := 763) (by decide +kernel), rfl⟩
theorem q_764 : Cond.fieldLink RX7 25 "StringVotesModel" "side" "[I" ∈ ALL := List.mem_filter.mpr ⟨List.mem_of_getElem? (i := 764) (by decide +kernel), rfl⟩
theorem q_765 : Cond.fieldLink RX7 28 "StringVotesModel" "vote" "[I" ∈ ALL := List.mem_filter.mpr ⟨List.mem_of_getElem? (i := 765) (by decide +kernel), rfl⟩
theorem q_766 : Cond.fieldLink RX7 31 "StringVotesModel" "gain" "[I" ∈ ALL := List.mem_filter.mpr ⟨List.mem_of_getElem? (i := 766) (by decide +kernel), rfl⟩
theorem q_767 : Cond.fieldLink RX7 163 "StringVotesModel" "spot" "I" ∈ ALL := List.mem_filter.mpr ⟨List.mem_of_getElem? (i := 767) (by decide +kernel), rfl⟩
theorem q_768 : Cond.fieldLink RX7 200 "StringVotesModel" "from" "I" ∈ ALL := List.mem_filter.mpr ⟨List.mem_of_getElem? (i := 768) (by decide +kernel), rfl⟩
theorem q_769 : Cond.fieldLink RX7 212 "StringVotesModel" "reason" "I" ∈ ALL := List.mem_filter.mpr ⟨List.mem_of_getElem? (i := 769) (by decide +kernel), rfl⟩
theorem q_770 : Cond.fieldLink RX7 215 "StringVotesModel" "cause" "I" ∈ ALL := List.mem_filter.mpr ⟨List.mem_of_getElem? (i := 770) (by decide +kernel), rfl⟩
theorem q_771 : Cond.fieldLink RX7 203 "StringVotesModel" "orders" "I" ∈ ALL := List.mem_filter.mpr ⟨List.mem_of_getElem? (i := 771) (by decide +kernel), rfl⟩
theorem q_772 : Cond.fieldLink RX7 169 "StringVotesModel" "order" "I" ∈ ALL := List.mem_filter.mpr ⟨List.mem_of_getElem? (i := 772) (by decide +kernel), rfl⟩
theorem q_773 : Cond.fieldLink RX7 34 "StringVotesModel" "numbers" "[I" ∈ ALL := List.mem_filter.mpr ⟨List.mem_of_getElem? (i := 773) (by decide +kernel), rfl⟩
theorem q_811 : Cond.methodLink RL 69 yX7_whyTie ∈ ALL := List.mem_filter.mpr ⟨List.mem_of_getElem? (i := 811) (by decide +kernel), rfl⟩
theorem q_812 : Cond.instanceMethod yX7_whyTie ∈ ALL := List.mem_filter.mpr ⟨List.mem_of_getElem? (i := 812) (by decide +kernel), rfl⟩
theorem q_813 : Cond.selects RX7 yX7_whyTie yX7_whyTie ∈ ALL := List.mem_filter.mpr ⟨List.mem_of_getElem? (i := 813) (by decide +kernel), rfl⟩
theorem q_814 : Cond.code yX7_whyTie cX7_whyTie 4 (some .int) ∈ ALL := List.mem_filter.mpr ⟨List.mem_of_getElem? (i := 814) (by decide +kernel), rfl⟩
theorem q_815 : Cond.methodLink RX7 88 yX7_isPair ∈ ALL := List.mem_filter.mpr ⟨List.mem_of_getElem? (i := 815) (by decide +kernel), rfl⟩
theorem q_817 : Cond.instanceMethod yX7_isPair ∈ ALL := List.mem_filter.mpr ⟨List.mem_of_getElem? (i := 817) (by decide +kernel), rfl⟩
theorem q_818 : Cond.code yX7_isPair cX7_isPair 3 (some .boolean) ∈ ALL := List.mem_filter.mpr ⟨List.mem_of_getElem? (i := 818) (by decide +kernel), rfl⟩
theorem q_819 : Cond.methodLink RX7 49 yX7_isPuppet ∈ ALL := List.mem_filter.mpr ⟨List.mem_of_getElem? (i := 819) (by decide +kernel), rfl⟩
theorem q_821 : Cond.instanceMethod yX7_isPuppet ∈ ALL := List.mem_filter.mpr ⟨List.mem_of_getElem? (i := 821) (by decide +kernel), rfl⟩
theorem q_822 : Cond.code yX7_isPuppet cX7_isPuppet 2 (some .boolean) ∈ ALL := List.mem_filter.mpr ⟨List.mem_of_getElem? (i := 822) (by decide +kernel), rfl⟩
theorem q_823 : Cond.methodLink RX7 45 yX7_in ∈ ALL := List.mem_filter.mpr ⟨List.mem_of_getElem? (i := 823) (by decide +kernel), rfl⟩
theorem q_824 : Cond.static yX7_in ∈ ALL := List.mem_filter.mpr ⟨List.mem_of_getElem? (i := 824) (by decide +kernel), rfl⟩
theorem q_825 : Cond.code yX7_in cX7_in 3 (some .boolean) ∈ ALL := List.mem_filter.mpr ⟨List.mem_of_getElem? (i := 825) (by decide +kernel), rfl⟩
theorem q_826 : Cond.methodLink RX7 92 yX7_refused ∈ ALL := List.mem_filter.mpr ⟨List.mem_of_getElem? (i := 826) (by decide +kernel), rfl⟩
theorem q_828 : Cond.instanceMethod yX7_refused ∈ ALL := List.mem_filter.mpr ⟨List.mem_of_getElem? (i := 828) (by decide +kernel), rfl⟩
theorem q_829 : Cond.code yX7_refused cX7_refused 6 (some .int) ∈ ALL := List.mem_filter.mpr ⟨List.mem_of_getElem? (i := 829) (by decide +kernel), rfl⟩
theorem q_830 : Cond.methodLink RX7 85 yX7_stringOfBoth ∈ ALL := List.mem_filter.mpr ⟨List.mem_of_getElem? (i := 830) (by decide +kernel), rfl⟩
theorem q_832 : Cond.instanceMethod yX7_stringOfBoth ∈ ALL := List.mem_filter.mpr ⟨List.mem_of_getElem? (i := 832) (by decide +kernel), rfl⟩
theorem q_833 : Cond.code yX7_stringOfBoth cX7_stringOfBoth 5 (some .int) ∈ ALL := List.mem_filter.mpr ⟨List.mem_of_getElem? (i := 833) (by decide +kernel), rfl⟩
theorem q_834 : Cond.methodLink RX7 53 yX7_tied ∈ ALL := List.mem_filter.mpr ⟨List.mem_of_getElem? (i := 834) (by decide +kernel), rfl⟩
theorem q_836 : Cond.instanceMethod yX7_tied ∈ ALL := List.mem_filter.mpr ⟨List.mem_of_getElem? (i := 836) (by decide +kernel), rfl⟩
theorem q_837 : Cond.code yX7_tied cX7_tied 3 (some .int) ∈ ALL := List.mem_filter.mpr ⟨List.mem_of_getElem? (i := 837) (by decide +kernel), rfl⟩
theorem q_838 : Cond.constant RX7 60 (-1000004) ∈ ALL := List.mem_filter.mpr ⟨List.mem_of_getElem? (i := 838) (by decide +kernel), rfl⟩
theorem q_839 : Cond.methodLink RX7 71 yX7_looks ∈ ALL := List.mem_filter.mpr ⟨List.mem_of_getElem? (i := 839) (by decide +kernel), rfl⟩
theorem q_841 : Cond.instanceMethod yX7_looks ∈ ALL := List.mem_filter.mpr ⟨List.mem_of_getElem? (i := 841) (by decide +kernel), rfl⟩
theorem q_842 : Cond.code yX7_looks cX7_looks 4 none ∈ ALL := List.mem_filter.mpr ⟨List.mem_of_getElem? (i := 842) (by decide +kernel), rfl⟩
theorem q_843 : Cond.methodLink RX7 57 yX7_isJoined ∈ ALL := List.mem_filter.mpr ⟨List.mem_of_getElem? (i := 843) (by decide +kernel), rfl⟩
theorem q_845 : Cond.instanceMethod yX7_isJoined ∈ ALL := List.mem_filter.mpr ⟨List.mem_of_getElem? (i := 845) (by decide +kernel), rfl⟩
theorem q_846 : Cond.code yX7_isJoined cX7_isJoined 6 (some .boolean) ∈ ALL := List.mem_filter.mpr ⟨List.mem_of_getElem? (i := 846) (by decide +kernel), rfl⟩
theorem q_847 : Cond.methodLink RX7 64 yX7_pulled ∈ ALL := List.mem_filter.mpr ⟨List.mem_of_getElem? (i := 847) (by decide +kernel), rfl⟩
theorem q_849 : Cond.instanceMethod yX7_pulled ∈ ALL := List.mem_filter.mpr ⟨List.mem_of_getElem? (i := 849) (by decide +kernel), rfl⟩
theorem q_850 : Cond.code yX7_pulled cX7_pulled 5 (some .int) ∈ ALL := List.mem_filter.mpr ⟨List.mem_of_getElem? (i := 850) (by decide +kernel), rfl⟩
theorem q_851 : Cond.methodLink RX7 61 yX7_of ∈ ALL := List.mem_filter.mpr ⟨List.mem_of_getElem? (i := 851) (by decide +kernel), rfl⟩
theorem q_853 : Cond.instanceMethod yX7_of ∈ ALL := List.mem_filter.mpr ⟨List.mem_of_getElem? (i := 853) (by decide +kernel), rfl⟩
theorem q_854 : Cond.code yX7_of cX7_of 3 (some .int) ∈ ALL := List.mem_filter.mpr ⟨List.mem_of_getElem? (i := 854) (by decide +kernel), rfl⟩
theorem q_855 : Cond.constant RX7 96 (-1000001) ∈ ALL := List.mem_filter.mpr ⟨List.mem_of_getElem? (i := 855) (by decide +kernel), rfl⟩
theorem q_856 : Cond.methodLink RL 17 yX7_puppet ∈ ALL := List.mem_filter.mpr ⟨List.mem_of_getElem? (i := 856) (by decide +kernel), rfl⟩
theorem q_857 : Cond.instanceMethod yX7_puppet ∈ ALL := List.mem_filter.mpr ⟨List.mem_of_getElem? (i := 857) (by decide +kernel), rfl⟩
theorem q_858 : Cond.selects RX7 yX7_puppet yX7_puppet ∈ ALL := List.mem_filter.mpr ⟨List.mem_of_getElem? (i := 858) (by decide +kernel), rfl⟩
theorem q_859 : Cond.code yX7_puppet cX7_puppet 4 (some .int) ∈ ALL := List.mem_filter.mpr ⟨List.mem_of_getElem? (i := 859) (by decide +kernel), rfl⟩
theorem q_860 : Cond.constant RX7 97 (-1000003) ∈ ALL := List.mem_filter.mpr ⟨List.mem_of_getElem? (i := 860) (by decide +kernel), rfl⟩
theorem q_861 : Cond.methodLink RX7 98 yX7_changes ∈ ALL := List.mem_filter.mpr ⟨List.mem_of_getElem? (i := 861) (by decide +kernel), rfl⟩
theorem q_863 : Cond.instanceMethod yX7_changes ∈ ALL := List.mem_filter.mpr ⟨List.mem_of_getElem? (i := 863) (by decide +kernel), rfl⟩
theorem q_864 : Cond.code yX7_changes cX7_changes 2 none ∈ ALL := List.mem_filter.mpr ⟨List.mem_of_getElem? (i := 864) (by decide +kernel), rfl⟩
theorem q_865 : Cond.methodLink RL 22 yX7_tie ∈ ALL := List.mem_filter.mpr ⟨List.mem_of_getElem? (i := 865) (by decide +kernel), rfl⟩
theorem q_866 : Cond.instanceMethod yX7_tie ∈ ALL := List.mem_filter.mpr ⟨List.mem_of_getElem? (i := 866) (by decide +kernel), rfl⟩
theorem q_867 : Cond.selects RX7 yX7_tie yX7_tie ∈ ALL := List.mem_filter.mpr ⟨List.mem_of_getElem? (i := 867) (by decide +kernel), rfl⟩
theorem q_868 : Cond.code yX7_tie cX7_tie 6 (some .int) ∈ ALL := List.mem_filter.mpr ⟨List.mem_of_getElem? (i := 868) (by decide +kernel), rfl⟩
theorem q_869 : Cond.constant RX7 101 (-1000002) ∈ ALL := List.mem_filter.mpr ⟨List.mem_of_getElem? (i := 869) (by decide +kernel), rfl⟩
theorem q_870 : Cond.methodLink RL 27 yX7_cut ∈ ALL := List.mem_filter.mpr ⟨List.mem_of_getElem? (i := 870) (by decide +kernel), rfl⟩
theorem q_871 : Cond.instanceMethod yX7_cut ∈ ALL := List.mem_filter.mpr ⟨List.mem_of_getElem? (i := 871) (by decide +kernel), rfl⟩
theorem q_872 : Cond.selects RX7 yX7_cut yX7_cut ∈ ALL := List.mem_filter.mpr ⟨List.mem_of_getElem? (i := 872) (by decide +kernel), rfl⟩
theorem q_873 : Cond.code yX7_cut cX7_cut 2 (some .int) ∈ ALL := List.mem_filter.mpr ⟨List.mem_of_getElem? (i := 873) (by decide +kernel), rfl⟩
theorem q_874 : Cond.methodLink RX7 102 yX7_isString ∈ ALL := List.mem_filter.mpr ⟨List.mem_of_getElem? (i := 874) (by decide +kernel), rfl⟩
theorem q_876 : Cond.instanceMethod yX7_isString ∈ ALL := List.mem_filter.mpr ⟨List.mem_of_getElem? (i := 876) (by decide +kernel), rfl⟩
theorem q_877 : Cond.code yX7_isString cX7_isString 2 (some .boolean) ∈ ALL := List.mem_filter.mpr ⟨List.mem_of_getElem? (i := 877) (by decide +kernel), rfl⟩
theorem q_878 : Cond.methodLink RX7 105 yX7_cuts ∈ ALL := List.mem_filter.mpr ⟨List.mem_of_getElem? (i := 878) (by decide +kernel), rfl⟩
theorem q_880 : Cond.instanceMethod yX7_cuts ∈ ALL := List.mem_filter.mpr ⟨List.mem_of_getElem? (i := 880) (by decide +kernel), rfl⟩
theorem q_881 : Cond.code yX7_cuts cX7_cuts 3 none ∈ ALL := List.mem_filter.mpr ⟨List.mem_of_getElem? (i := 881) (by decide +kernel), rfl⟩
theorem q_882 : Cond.methodLink RL 31 yX7_cutDeal ∈ ALL := List.mem_filter.mpr ⟨List.mem_of_getElem? (i := 882) (by decide +kernel), rfl⟩
theorem q_883 : Cond.instanceMethod yX7_cutDeal ∈ ALL := List.mem_filter.mpr ⟨List.mem_of_getElem? (i := 883) (by decide +kernel), rfl⟩
theorem q_884 : Cond.selects RX7 yX7_cutDeal yX7_cutDeal ∈ ALL := List.mem_filter.mpr ⟨List.mem_of_getElem? (i := 884) (by decide +kernel), rfl⟩
theorem q_885 : Cond.code yX7_cutDeal cX7_cutDeal 4 (some .int) ∈ ALL := List.mem_filter.mpr ⟨List.mem_of_getElem? (i := 885) (by decide +kernel), rfl⟩
theorem q_886 : Cond.methodLink RX7 108 yX7_ofDeal ∈ ALL := List.mem_filter.mpr ⟨List.mem_of_getElem? (i := 886) (by decide +kernel), rfl⟩
theorem q_888 : Cond.instanceMethod yX7_ofDeal ∈ ALL := List.mem_filter.mpr ⟨List.mem_of_getElem? (i := 888) (by decide +kernel), rfl⟩
theorem q_889 : Cond.code yX7_ofDeal cX7_ofDeal 4 (some .int) ∈ ALL := List.mem_filter.mpr ⟨List.mem_of_getElem? (i := 889) (by decide +kernel), rfl⟩
theorem q_890 : Cond.methodLink RL 73 yX7_whyPull ∈ ALL := List.mem_filter.mpr ⟨List.mem_of_getElem? (i := 890) (by decide +kernel), rfl⟩
theorem q_891 : Cond.instanceMethod yX7_whyPull ∈ ALL := List.mem_filter.mpr ⟨List.mem_of_getElem? (i := 891) (by decide +kernel), rfl⟩
theorem q_892 : Cond.selects RX7 yX7_whyPull yX7_whyPull ∈ ALL := List.mem_filter.mpr ⟨List.mem_of_getElem? (i := 892) (by decide +kernel), rfl⟩
theorem q_893 : Cond.code yX7_whyPull cX7_whyPull 3 (some .int) ∈ ALL := List.mem_filter.mpr ⟨List.mem_of_getElem? (i := 893) (by decide +kernel), rfl⟩
theorem q_894 : Cond.methodLink RX7 114 yX7_barred ∈ ALL := List.mem_filter.mpr ⟨List.mem_of_getElem? (i := 894) (by decide +kernel), rfl⟩
theorem q_896 : Cond.instanceMethod yX7_barred ∈ ALL := List.mem_filter.mpr ⟨List.mem_of_getElem? (i := 896) (by decide +kernel), rfl⟩
theorem q_897 : Cond.code yX7_barred cX7_barred 4 (some .int) ∈ ALL := List.mem_filter.mpr ⟨List.mem_of_getElem? (i := 897) (by decide +kernel), rfl⟩
theorem q_898 : Cond.methodLink RX7 111 yX7_manyPulled ∈ ALL := List.mem_filter.mpr ⟨List.mem_of_getElem? (i := 898) (by decide +kernel), rfl⟩
theorem q_900 : Cond.instanceMethod yX7_manyPulled ∈ ALL := List.mem_filter.mpr ⟨List.mem_of_getElem? (i := 900) (by decide +kernel), rfl⟩
theorem q_901 : Cond.code yX7_manyPulled cX7_manyPulled 4 (some .int) ∈ ALL := List.mem_filter.mpr ⟨List.mem_of_getElem? (i := 901) (by decide +kernel), rfl⟩
theorem q_902 : Cond.methodLink RL 35 yX7_pull ∈ ALL := List.mem_filter.mpr ⟨List.mem_of_getElem? (i := 902) (by decide +kernel), rfl⟩
theorem q_903 : Cond.instanceMethod yX7_pull ∈ ALL := List.mem_filter.mpr ⟨List.mem_of_getElem? (i := 903) (by decide +kernel), rfl⟩
theorem q_904 : Cond.selects RX7 yX7_pull yX7_pull ∈ ALL := List.mem_filter.mpr ⟨List.mem_of_getElem? (i := 904) (by decide +kernel), rfl⟩
theorem q_905 : Cond.code yX7_pull cX7_pull 3 (some .int) ∈ ALL := List.mem_filter.mpr ⟨List.mem_of_getElem? (i := 905) (by decide +kernel), rfl⟩
theorem q_906 : Cond.methodLink RX7 79 yX7_yesNow ∈ ALL := List.mem_filter.mpr ⟨List.mem_of_getElem? (i := 906) (by decide +kernel), rfl⟩
theorem q_908 : Cond.instanceMethod yX7_yesNow ∈ ALL := List.mem_filter.mpr ⟨List.mem_of_getElem? (i := 908) (by decide +kernel), rfl⟩
theorem q_909 : Cond.code yX7_yesNow cX7_yesNow 1 (some .int) ∈ ALL := List.mem_filter.mpr ⟨List.mem_of_getElem? (i := 909) (by decide +kernel), rfl⟩
theorem q_910 : Cond.methodLink RX7 75 yX7_votes ∈ ALL := List.mem_filter.mpr ⟨List.mem_of_getElem? (i := 910) (by decide +kernel), rfl⟩
theorem q_912 : Cond.instanceMethod yX7_votes ∈ ALL := List.mem_filter.mpr ⟨List.mem_of_getElem? (i := 912) (by decide +kernel), rfl⟩
theorem q_913 : Cond.code yX7_votes cX7_votes 4 (some .int) ∈ ALL := List.mem_filter.mpr ⟨List.mem_of_getElem? (i := 913) (by decide +kernel), rfl⟩
theorem q_914 : Cond.methodLink RX7 67 yX7_byLeanings ∈ ALL := List.mem_filter.mpr ⟨List.mem_of_getElem? (i := 914) (by decide +kernel), rfl⟩
theorem q_916 : Cond.instanceMethod yX7_byLeanings ∈ ALL := List.mem_filter.mpr ⟨List.mem_of_getElem? (i := 916) (by decide +kernel), rfl⟩
theorem q_917 : Cond.code yX7_byLeanings cX7_byLeanings 6 (some .int) ∈ ALL := List.mem_filter.mpr ⟨List.mem_of_getElem? (i := 917) (by decide +kernel), rfl⟩
theorem q_918 : Cond.methodLink RL 39 yX7_release ∈ ALL := List.mem_filter.mpr ⟨List.mem_of_getElem? (i := 918) (by decide +kernel), rfl⟩
theorem q_919 : Cond.instanceMethod yX7_release ∈ ALL := List.mem_filter.mpr ⟨List.mem_of_getElem? (i := 919) (by decide +kernel), rfl⟩
theorem q_920 : Cond.selects RX7 yX7_release yX7_release ∈ ALL := List.mem_filter.mpr ⟨List.mem_of_getElem? (i := 920) (by decide +kernel), rfl⟩
theorem q_921 : Cond.code yX7_release cX7_release 3 (some .int) ∈ ALL := List.mem_filter.mpr ⟨List.mem_of_getElem? (i := 921) (by decide +kernel), rfl⟩
theorem q_922 : Cond.methodLink RL 44 yX7_session ∈ ALL := List.mem_filter.mpr ⟨List.mem_of_getElem? (i := 922) (by decide +kernel), rfl⟩
theorem q_923 : Cond.instanceMethod yX7_session ∈ ALL := List.mem_filter.mpr ⟨List.mem_of_getElem? (i := 923) (by decide +kernel), rfl⟩
theorem q_924 : Cond.selects RX7 yX7_session yX7_session ∈ ALL := List.mem_filter.mpr ⟨List.mem_of_getElem? (i := 924) (by decide +kernel), rfl⟩
theorem q_925 : Cond.code yX7_session cX7_session 4 (some .int) ∈ ALL := List.mem_filter.mpr ⟨List.mem_of_getElem? (i := 925) (by decide +kernel), rfl⟩
theorem q_926 : Cond.methodLink RX7 117 yX7_isPassed ∈ ALL := List.mem_filter.mpr ⟨List.mem_of_getElem? (i := 926) (by decide +kernel), rfl⟩
theorem q_928 : Cond.instanceMethod yX7_isPassed ∈ ALL := List.mem_filter.mpr ⟨List.mem_of_getElem? (i := 928) (by decide +kernel), rfl⟩
theorem q_929 : Cond.code yX7_isPassed cX7_isPassed 3 (some .boolean) ∈ ALL := List.mem_filter.mpr ⟨List.mem_of_getElem? (i := 929) (by decide +kernel), rfl⟩
theorem q_930 : Cond.methodLink RX7 82 yX7_seats ∈ ALL := List.mem_filter.mpr ⟨List.mem_of_getElem? (i := 930) (by decide +kernel), rfl⟩
theorem q_932 : Cond.instanceMethod yX7_seats ∈ ALL := List.mem_filter.mpr ⟨List.mem_of_getElem? (i := 932) (by decide +kernel), rfl⟩
theorem q_933 : Cond.code yX7_seats cX7_seats 3 (some .int) ∈ ALL := List.mem_filter.mpr ⟨List.mem_of_getElem? (i := 933) (by decide +kernel), rfl⟩
theorem q_934 : Cond.methodLink RL 48 yX7_set ∈ ALL := List.mem_filter.mpr ⟨List.mem_of_getElem? (i := 934) (by decide +kernel), rfl⟩
theorem q_935 : Cond.instanceMethod yX7_set ∈ ALL := List.mem_filter.mpr ⟨List.mem_of_getElem? (i := 935) (by decide +kernel), rfl⟩
theorem q_936 : Cond.selects RX7 yX7_set yX7_set ∈ ALL := List.mem_filter.mpr ⟨List.mem_of_getElem? (i := 936) (by decide +kernel), rfl⟩
theorem q_937 : Cond.code yX7_set cX7_set 4 (some .int) ∈ ALL := List.mem_filter.mpr ⟨List.mem_of_getElem? (i := 937) (by decide +kernel), rfl⟩
theorem q_938 : Cond.methodLink RL 52 yX7_puppetOf ∈ ALL := List.mem_filter.mpr ⟨List.mem_of_getElem? (i := 938) (by decide +kernel), rfl⟩
theorem q_939 : Cond.instanceMethod yX7_puppetOf ∈ ALL := List.mem_filter.mpr ⟨List.mem_of_getElem? (i := 939) (by decide +kernel), rfl⟩
theorem q_940 : Cond.selects RX7 yX7_puppetOf yX7_puppetOf ∈ ALL := List.mem_filter.mpr ⟨List.mem_of_getElem? (i := 940) (by decide +kernel), rfl⟩
theorem q_941 : Cond.code yX7_puppetOf cX7_puppetOf 3 (some .int) ∈ ALL := List.mem_filter.mpr ⟨List.mem_of_getElem? (i := 941) (by decide +kernel), rfl⟩
theorem q_942 : Cond.methodLink RX7 121 yX7_tiesOf ∈ ALL := List.mem_filter.mpr ⟨List.mem_of_getElem? (i := 942) (by decide +kernel), rfl⟩
theorem q_944 : Cond.instanceMethod yX7_tiesOf ∈ ALL := List.mem_filter.mpr ⟨List.mem_of_getElem? (i := 944) (by decide +kernel), rfl⟩
theorem q_945 : Cond.code yX7_tiesOf cX7_tiesOf 4 (some .int) ∈ ALL := List.mem_filter.mpr ⟨List.mem_of_getElem? (i := 945) (by decide +kernel), rfl⟩
theorem q_946 : Cond.methodLink RX7 124 yX7_groupOf ∈ ALL := List.mem_filter.mpr ⟨List.mem_of_getElem? (i := 946) (by decide +kernel), rfl⟩
theorem q_948 : Cond.instanceMethod yX7_groupOf ∈ ALL := List.mem_filter.mpr ⟨List.mem_of_getElem? (i := 948) (by decide +kernel), rfl⟩
theorem q_949 : Cond.code yX7_groupOf cX7_groupOf 4 (some .int) ∈ ALL := List.mem_filter.mpr ⟨List.mem_of_getElem? (i := 949) (by decide +kernel), rfl⟩
theorem q_950 : Cond.methodLink RX7 127 yX7_groupSeats ∈ ALL := List.mem_filter.mpr ⟨List.mem_of_getElem? (i := 950) (by decide +kernel), rfl⟩
theorem q_952 : Cond.instanceMethod yX7_groupSeats ∈ ALL := List.mem_filter.mpr ⟨List.mem_of_getElem? (i := 952) (by decide +kernel), rfl⟩
theorem q_953 : Cond.code yX7_groupSeats cX7_groupSeats 4 (some .int) ∈ ALL := List.mem_filter.mpr ⟨List.mem_of_getElem? (i := 953) (by decide +kernel), rfl⟩
theorem q_954 : Cond.methodLink RL 56 yX7_stringOf ∈ ALL := List.mem_filter.mpr ⟨List.mem_of_getElem? (i := 954) (by decide +kernel), rfl⟩
theorem q_955 : Cond.instanceMethod yX7_stringOf ∈ ALL := List.mem_filter.mpr ⟨List.mem_of_getElem? (i := 955) (by decide +kernel), rfl⟩
theorem q_956 : Cond.selects RX7 yX7_stringOf yX7_stringOf ∈ ALL := List.mem_filter.mpr ⟨List.mem_of_getElem? (i := 956) (by decide +kernel), rfl⟩
theorem q_957 : Cond.code yX7_stringOf cX7_stringOf 3 (some .int) ∈ ALL := List.mem_filter.mpr ⟨List.mem_of_getElem? (i := 957) (by decide +kernel), rfl⟩
theorem q_958 : Cond.methodLink RL 60 yX7_between ∈ ALL := List.mem_filter.mpr ⟨List.mem_of_getElem? (i := 958) (by decide +kernel), rfl⟩
theorem q_959 : Cond.instanceMethod yX7_between ∈ ALL := List.mem_filter.mpr ⟨List.mem_of_getElem? (i := 959) (by decide +kernel), rfl⟩
theorem q_960 : Cond.selects RX7 yX7_between yX7_between ∈ ALL := List.mem_filter.mpr ⟨List.mem_of_getElem? (i := 960) (by decide +kernel), rfl⟩
theorem q_961 : Cond.code yX7_between cX7_between 6 (some .int) ∈ ALL := List.mem_filter.mpr ⟨List.mem_of_getElem? (i := 961) (by decide +kernel), rfl⟩
theorem q_962 : Cond.methodLink RX7 130 yX7_reached ∈ ALL := List.mem_filter.mpr ⟨List.mem_of_getElem? (i := 962) (by decide +kernel), rfl⟩
theorem q_964 : Cond.instanceMethod yX7_reached ∈ ALL := List.mem_filter.mpr ⟨List.mem_of_getElem? (i := 964) (by decide +kernel), rfl⟩
theorem q_965 : Cond.code yX7_reached cX7_reached 5 (some .int) ∈ ALL := List.mem_filter.mpr ⟨List.mem_of_getElem? (i := 965) (by decide +kernel), rfl⟩
theorem q_966 : Cond.methodLink RL 64 yX7_book ∈ ALL := List.mem_filter.mpr ⟨List.mem_of_getElem? (i := 966) (by decide +kernel), rfl⟩
theorem q_967 : Cond.instanceMethod yX7_book ∈ ALL := List.mem_filter.mpr ⟨List.mem_of_getElem? (i := 967) (by decide +kernel), rfl⟩
theorem q_968 : Cond.selects RX7 yX7_book yX7_book ∈ ALL := List.mem_filter.mpr ⟨List.mem_of_getElem? (i := 968) (by decide +kernel), rfl⟩
theorem q_969 : Cond.code yX7_book cX7_book 3 (some .int) ∈ ALL := List.mem_filter.mpr ⟨List.mem_of_getElem? (i := 969) (by decide +kernel), rfl⟩
theorem q_970 : Cond.methodLink RL 77 yX7_bestPull ∈ ALL := List.mem_filter.mpr ⟨List.mem_of_getElem? (i := 970) (by decide +kernel), rfl⟩
theorem q_971 : Cond.instanceMethod yX7_bestPull ∈ ALL := List.mem_filter.mpr ⟨List.mem_of_getElem? (i := 971) (by decide +kernel), rfl⟩
theorem q_972 : Cond.selects RX7 yX7_bestPull yX7_bestPull ∈ ALL := List.mem_filter.mpr ⟨List.mem_of_getElem? (i := 972) (by decide +kernel), rfl⟩
theorem q_973 : Cond.code yX7_bestPull cX7_bestPull 6 (some .int) ∈ ALL := List.mem_filter.mpr ⟨List.mem_of_getElem? (i := 973) (by decide +kernel), rfl⟩
theorem q_974 : Cond.methodLink RX7 133 yX7_yesWith ∈ ALL := List.mem_filter.mpr ⟨List.mem_of_getElem? (i := 974) (by decide +kernel), rfl⟩
theorem q_976 : Cond.instanceMethod yX7_yesWith ∈ ALL := List.mem_filter.mpr ⟨List.mem_of_getElem? (i := 976) (by decide +kernel), rfl⟩
theorem q_977 : Cond.code yX7_yesWith cX7_yesWith 5 (some .int) ∈ ALL := List.mem_filter.mpr ⟨List.mem_of_getElem? (i := 977) (by decide +kernel), rfl⟩
theorem q_978 : Cond.methodLink RL 81 yX7_fewest ∈ ALL := List.mem_filter.mpr ⟨List.mem_of_getElem? (i := 978) (by decide +kernel), rfl⟩
theorem q_979 : Cond.instanceMethod yX7_fewest ∈ ALL := List.mem_filter.mpr ⟨List.mem_of_getElem? (i := 979) (by decide +kernel), rfl⟩
theorem q_980 : Cond.selects RX7 yX7_fewest yX7_fewest ∈ ALL := List.mem_filter.mpr ⟨List.mem_of_getElem? (i := 980) (by decide +kernel), rfl⟩
theorem q_981 : Cond.code yX7_fewest cX7_fewest 5 (some .int) ∈ ALL := List.mem_filter.mpr ⟨List.mem_of_getElem? (i := 981) (by decide +kernel), rfl⟩
theorem q_982 : Cond.methodLink RX7 136 yX7_gains ∈ ALL := List.mem_filter.mpr ⟨List.mem_of_getElem? (i := 982) (by decide +kernel), rfl⟩
theorem q_984 : Cond.instanceMethod yX7_gains ∈ ALL := List.mem_filter.mpr ⟨List.mem_of_getElem? (i := 984) (by decide +kernel), rfl⟩
theorem q_985 : Cond.code yX7_gains cX7_gains 5 (some .int) ∈ ALL := List.mem_filter.mpr ⟨List.mem_of_getElem? (i := 985) (by decide +kernel), rfl⟩
theorem q_986 : Cond.methodLink RX7 139 yX7_greedy ∈ ALL := List.mem_filter.mpr ⟨List.mem_of_getElem? (i := 986) (by decide +kernel), rfl⟩
theorem q_988 : Cond.instanceMethod yX7_greedy ∈ ALL := List.mem_filter.mpr ⟨List.mem_of_getElem? (i := 988) (by decide +kernel), rfl⟩
theorem q_989 : Cond.code yX7_greedy cX7_greedy 8 (some .int) ∈ ALL := List.mem_filter.mpr ⟨List.mem_of_getElem? (i := 989) (by decide +kernel), rfl⟩
theorem q_990 : Cond.methodLink RX7 142 yX7_bySets ∈ ALL := List.mem_filter.mpr ⟨List.mem_of_getElem? (i := 990) (by decide +kernel), rfl⟩
theorem q_992 : Cond.instanceMethod yX7_bySets ∈ ALL := List.mem_filter.mpr ⟨List.mem_of_getElem? (i := 992) (by decide +kernel), rfl⟩
theorem q_993 : Cond.code yX7_bySets cX7_bySets 8 (some .int) ∈ ALL := List.mem_filter.mpr ⟨List.mem_of_getElem? (i := 993) (by decide +kernel), rfl⟩
theorem q_994 : Cond.methodLink RL 85 yX7_ifCut ∈ ALL := List.mem_filter.mpr ⟨List.mem_of_getElem? (i := 994) (by decide +kernel), rfl⟩
theorem q_995 : Cond.instanceMethod yX7_ifCut ∈ ALL := List.mem_filter.mpr ⟨List.mem_of_getElem? (i := 995) (by decide +kernel), rfl⟩
theorem q_996 : Cond.selects RX7 yX7_ifCut yX7_ifCut ∈ ALL := List.mem_filter.mpr ⟨List.mem_of_getElem? (i := 996) (by decide +kernel), rfl⟩
theorem q_997 : Cond.code yX7_ifCut cX7_ifCut 3 (some .int) ∈ ALL := List.mem_filter.mpr ⟨List.mem_of_getElem? (i := 997) (by decide +kernel), rfl⟩
theorem q_998 : Cond.methodLink RX7 145 yX7_groups ∈ ALL := List.mem_filter.mpr ⟨List.mem_of_getElem? (i := 998) (by decide +kernel), rfl⟩
theorem q_1000 : Cond.instanceMethod yX7_groups ∈ ALL := List.mem_filter.mpr ⟨List.mem_of_getElem? (i := 1000) (by decide +kernel), rfl⟩
theorem q_1001 : Cond.code yX7_groups cX7_groups 3 (some .int) ∈ ALL := List.mem_filter.mpr ⟨List.mem_of_getElem? (i := 1001) (by decide +kernel), rfl⟩
theorem q_1002 : Cond.methodLink RL 89 yX7_share ∈ ALL := List.mem_filter.mpr ⟨List.mem_of_getElem? (i := 1002) (by decide +kernel), rfl⟩
theorem q_1003 : Cond.instanceMethod yX7_share ∈ ALL := List.mem_filter.mpr ⟨List.mem_of_getElem? (i := 1003) (by decide +kernel), rfl⟩
theorem q_1004 : Cond.selects RX7 yX7_share yX7_share ∈ ALL := List.mem_filter.mpr ⟨List.mem_of_getElem? (i := 1004) (by decide +kernel), rfl⟩
theorem q_1005 : Cond.code yX7_share cX7_share 3 (some .int) ∈ ALL := List.mem_filter.mpr ⟨List.mem_of_getElem? (i := 1005) (by decide +kernel), rfl⟩
theorem q_1006 : Cond.methodLink RX7 148 yJxf58ca_floatToIntBits_5c35a ∈ ALL := List.mem_filter.mpr ⟨List.mem_of_getElem? (i := 1006) (by decide +kernel), rfl⟩
theorem q_1007 : Cond.static yJxf58ca_floatToIntBits_5c35a ∈ ALL := List.mem_filter.mpr ⟨List.mem_of_getElem? (i := 1007) (by decide +kernel), rfl⟩
theorem q_1008 : Cond.code yJxf58ca_floatToIntBits_5c35a cJxf58ca_floatToIntBits_5c35a 1 (some .int) ∈ ALL := List.mem_filter.mpr ⟨List.mem_of_getElem? (i := 1008) (by decide +kernel), rfl⟩
theorem q_1009 : Cond.methodLink RJxf58ca 59 yJxf58ca_isNaN_12338 ∈ ALL := List.mem_filter.mpr ⟨List.mem_of_getElem? (i := 1009) (by decide +kernel), rfl⟩
theorem q_1010 : Cond.static yJxf58ca_isNaN_12338 ∈ ALL := List.mem_filter.mpr ⟨List.mem_of_getElem? (i := 1010) (by decide +kernel), rfl⟩
theorem q_1011 : Cond.code yJxf58ca_isNaN_12338 cJxf58ca_isNaN_12338 1 (some .boolean) ∈ ALL := List.mem_filter.mpr ⟨List.mem_of_getElem? (i := 1011) (by decide +kernel), rfl⟩
theorem q_1012 : Cond.methodLink RJxf58ca 74 ⟨"java/lang/Float", "floatToRawIntBits", "(F)I"⟩ ∈ ALL := List.mem_filter.mpr ⟨List.mem_of_getElem? (i := 1012) (by decide +kernel), rfl⟩
theorem q_1013 : Cond.static ⟨"java/lang/Float", "floatToRawIntBits", "(F)I"⟩ ∈ ALL := List.mem_filter.mpr ⟨List.mem_of_getElem? (i := 1013) (by decide +kernel), rfl⟩
theorem q_1014 : Cond.native ⟨"java/lang/Float", "floatToRawIntBits", "(F)I"⟩ ∈ ALL := List.mem_filter.mpr ⟨List.mem_of_getElem? (i := 1014) (by decide +kernel), rfl⟩
theorem q_1015 : Cond.constant RJxf58ca 77 (2143289344) ∈ ALL := List.mem_filter.mpr ⟨List.mem_of_getElem? (i := 1015) (by decide +kernel), rfl⟩
theorem q_1016 : Cond.methodLink RL 93 yX7_count ∈ ALL := List.mem_filter.mpr ⟨List.mem_of_getElem? (i := 1016) (by decide +kernel), rfl⟩
theorem q_1017 : Cond.instanceMethod yX7_count ∈ ALL := List.mem_filter.mpr ⟨List.mem_of_getElem? (i := 1017) (by decide +kernel), rfl⟩
theorem q_1018 : Cond.selects RX7 yX7_count yX7_count ∈ ALL := List.mem_filter.mpr ⟨List.mem_of_getElem? (i := 1018) (by decide +kernel), rfl⟩
theorem q_1019 : Cond.code yX7_count cX7_count 3 (some .int) ∈ ALL := List.mem_filter.mpr ⟨List.mem_of_getElem? (i := 1019) (by decide +kernel), rfl⟩
theorem q_1020 : Cond.methodLink RX7 154 yX7_walked ∈ ALL := List.mem_filter.mpr ⟨List.mem_of_getElem? (i := 1020) (by decide +kernel), rfl⟩
theorem q_1022 : Cond.instanceMethod yX7_walked ∈ ALL := List.mem_filter.mpr ⟨List.mem_of_getElem? (i := 1022) (by decide +kernel), rfl⟩
theorem q_1023 : Cond.code yX7_walked cX7_walked 6 (some .int) ∈ ALL := List.mem_filter.mpr ⟨List.mem_of_getElem? (i := 1023) (by decide +kernel), rfl⟩
theorem q_1024 : Cond.methodLink RX7 157 yX7_pulledSet ∈ ALL := List.mem_filter.mpr ⟨List.mem_of_getElem? (i := 1024) (by decide +kernel), rfl⟩
theorem q_1026 : Cond.instanceMethod yX7_pulledSet ∈ ALL := List.mem_filter.mpr ⟨List.mem_of_getElem? (i := 1026) (by decide +kernel), rfl⟩
theorem q_1027 : Cond.code yX7_pulledSet cX7_pulledSet 3 (some .int) ∈ ALL := List.mem_filter.mpr ⟨List.mem_of_getElem? (i := 1027) (by decide +kernel), rfl⟩
theorem q_1028 : Cond.methodLink RL 97 yX7_undo ∈ ALL := List.mem_filter.mpr ⟨List.mem_of_getElem? (i := 1028) (by decide +kernel), rfl⟩
theorem q_1029 : Cond.instanceMethod yX7_undo ∈ ALL := List.mem_filter.mpr ⟨List.mem_of_getElem? (i := 1029) (by decide +kernel), rfl⟩
theorem q_1030 : Cond.selects RX7 yX7_undo yX7_undo ∈ ALL := List.mem_filter.mpr ⟨List.mem_of_getElem? (i := 1030) (by decide +kernel), rfl⟩
theorem q_1031 : Cond.code yX7_undo cX7_undo 2 (some .int) ∈ ALL := List.mem_filter.mpr ⟨List.mem_of_getElem? (i := 1031) (by decide +kernel), rfl⟩
theorem q_1032 : Cond.methodLink RL 101 yX7_type ∈ ALL := List.mem_filter.mpr ⟨List.mem_of_getElem? (i := 1032) (by decide +kernel), rfl⟩
theorem q_1033 : Cond.instanceMethod yX7_type ∈ ALL := List.mem_filter.mpr ⟨List.mem_of_getElem? (i := 1033) (by decide +kernel), rfl⟩
theorem q_1034 : Cond.selects RX7 yX7_type yX7_type ∈ ALL := List.mem_filter.mpr ⟨List.mem_of_getElem? (i := 1034) (by decide +kernel), rfl⟩
theorem q_1035 : Cond.code yX7_type cX7_type 2 (some .int) ∈ ALL := List.mem_filter.mpr ⟨List.mem_of_getElem? (i := 1035) (by decide +kernel), rfl⟩
theorem q_1036 : Cond.methodLink RL 105 yX7_clearText ∈ ALL := List.mem_filter.mpr ⟨List.mem_of_getElem? (i := 1036) (by decide +kernel), rfl⟩
theorem q_1037 : Cond.instanceMethod yX7_clearText ∈ ALL := List.mem_filter.mpr ⟨List.mem_of_getElem? (i := 1037) (by decide +kernel), rfl⟩
theorem q_1038 : Cond.selects RX7 yX7_clearText yX7_clearText ∈ ALL := List.mem_filter.mpr ⟨List.mem_of_getElem? (i := 1038) (by decide +kernel), rfl⟩
theorem q_1039 : Cond.code yX7_clearText cX7_clearText 2 (some .int) ∈ ALL := List.mem_filter.mpr ⟨List.mem_of_getElem? (i := 1039) (by decide +kernel), rfl⟩
theorem q_1040 : Cond.methodLink RL 109 yX7_fault ∈ ALL := List.mem_filter.mpr ⟨List.mem_of_getElem? (i := 1040) (by decide +kernel), rfl⟩
theorem q_1041 : Cond.instanceMethod yX7_fault ∈ ALL := List.mem_filter.mpr ⟨List.mem_of_getElem? (i := 1041) (by decide +kernel), rfl⟩
theorem q_1042 : Cond.selects RX7 yX7_fault yX7_fault ∈ ALL := List.mem_filter.mpr ⟨List.mem_of_getElem? (i := 1042) (by decide +kernel), rfl⟩
theorem q_1043 : Cond.code yX7_fault cX7_fault 3 (some .int) ∈ ALL := List.mem_filter.mpr ⟨List.mem_of_getElem? (i := 1043) (by decide +kernel), rfl⟩
theorem q_1044 : Cond.methodLink RX7 218 yX7_copies ∈ ALL := List.mem_filter.mpr ⟨List.mem_of_getElem? (i := 1044) (by decide +kernel), rfl⟩
theorem q_1045 : Cond.static yX7_copies ∈ ALL := List.mem_filter.mpr ⟨List.mem_of_getElem? (i := 1045) (by decide +kernel), rfl⟩
theorem q_1046 : Cond.code yX7_copies cX7_copies 3 none ∈ ALL := List.mem_filter.mpr ⟨List.mem_of_getElem? (i := 1046) (by decide +kernel), rfl⟩
theorem q_1047 : Cond.methodLink RX7 222 yX7_plays ∈ ALL := List.mem_filter.mpr ⟨List.mem_of_getElem? (i := 1047) (by decide +kernel), rfl⟩
theorem q_1049 : Cond.instanceMethod yX7_plays ∈ ALL := List.mem_filter.mpr ⟨List.mem_of_getElem? (i := 1049) (by decide +kernel), rfl⟩
theorem q_1050 : Cond.code yX7_plays cX7_plays 4 (some .boolean) ∈ ALL := List.mem_filter.mpr ⟨List.mem_of_getElem? (i := 1050) (by decide +kernel), rfl⟩
theorem q_1051 : Cond.methodLink RX7 206 yX7_parses ∈ ALL := List.mem_filter.mpr ⟨List.mem_of_getElem? (i := 1051) (by decide +kernel), rfl⟩
theorem q_1053 : Cond.instanceMethod yX7_parses ∈ ALL := List.mem_filter.mpr ⟨List.mem_of_getElem? (i := 1053) (by decide +kernel), rfl⟩
theorem q_1054 : Cond.code yX7_parses cX7_parses 4 (some .boolean) ∈ ALL := List.mem_filter.mpr ⟨List.mem_of_getElem? (i := 1054) (by decide +kernel), rfl⟩
theorem q_1055 : Cond.methodLink RX7 166 yX7_isAt ∈ ALL := List.mem_filter.mpr ⟨List.mem_of_getElem? (i := 1055) (by decide +kernel), rfl⟩
theorem q_1057 : Cond.instanceMethod yX7_isAt ∈ ALL := List.mem_filter.mpr ⟨List.mem_of_getElem? (i := 1057) (by decide +kernel), rfl⟩
theorem q_1058 : Cond.code yX7_isAt cX7_isAt 3 (some .boolean) ∈ ALL := List.mem_filter.mpr ⟨List.mem_of_getElem? (i := 1058) (by decide +kernel), rfl⟩
theorem q_1059 : Cond.methodLink RX7 172 yX7_numbersOf ∈ ALL := List.mem_filter.mpr ⟨List.mem_of_getElem? (i := 1059) (by decide +kernel), rfl⟩
theorem q_1060 : Cond.static yX7_numbersOf ∈ ALL := List.mem_filter.mpr ⟨List.mem_of_getElem? (i := 1060) (by decide +kernel), rfl⟩
theorem q_1061 : Cond.code yX7_numbersOf cX7_numbersOf 1 (some .int) ∈ ALL := List.mem_filter.mpr ⟨List.mem_of_getElem? (i := 1061) (by decide +kernel), rfl⟩
theorem q_1062 : Cond.methodLink RX7 175 yX7_numbered ∈ ALL := List.mem_filter.mpr ⟨List.mem_of_getElem? (i := 1062) (by decide +kernel), rfl⟩
theorem q_1064 : Cond.instanceMethod yX7_numbered ∈ ALL := List.mem_filter.mpr ⟨List.mem_of_getElem? (i := 1064) (by decide +kernel), rfl⟩
theorem q_1065 : Cond.code yX7_numbered cX7_numbered 3 (some .boolean) ∈ ALL := List.mem_filter.mpr ⟨List.mem_of_getElem? (i := 1065) (by decide +kernel), rfl⟩
theorem q_1066 : Cond.methodLink RX7 178 yX7_sign ∈ ALL := List.mem_filter.mpr ⟨List.mem_of_getElem? (i := 1066) (by decide +kernel), rfl⟩
theorem q_1068 : Cond.instanceMethod yX7_sign ∈ ALL := List.mem_filter.mpr ⟨List.mem_of_getElem? (i := 1068) (by decide +kernel), rfl⟩
theorem q_1069 : Cond.code yX7_sign cX7_sign 3 (some .boolean) ∈ ALL := List.mem_filter.mpr ⟨List.mem_of_getElem? (i := 1069) (by decide +kernel), rfl⟩
theorem q_1070 : Cond.methodLink RX7 209 yX7_does ∈ ALL := List.mem_filter.mpr ⟨List.mem_of_getElem? (i := 1070) (by decide +kernel), rfl⟩
theorem q_1072 : Cond.instanceMethod yX7_does ∈ ALL := List.mem_filter.mpr ⟨List.mem_of_getElem? (i := 1072) (by decide +kernel), rfl⟩
theorem q_1073 : Cond.code yX7_does cX7_does 1 (some .int) ∈ ALL := List.mem_filter.mpr ⟨List.mem_of_getElem? (i := 1073) (by decide +kernel), rfl⟩
theorem q_1074 : Cond.methodLink RX7 181 yX7_puppet ∈ ALL := List.mem_filter.mpr ⟨List.mem_of_getElem? (i := 1074) (by decide +kernel), rfl⟩
theorem q_1075 : Cond.methodLink RX7 184 yX7_tie ∈ ALL := List.mem_filter.mpr ⟨List.mem_of_getElem? (i := 1075) (by decide +kernel), rfl⟩
theorem q_1076 : Cond.methodLink RX7 188 yX7_cut ∈ ALL := List.mem_filter.mpr ⟨List.mem_of_getElem? (i := 1076) (by decide +kernel), rfl⟩
theorem q_1077 : Cond.methodLink RX7 191 yX7_cutDeal ∈ ALL := List.mem_filter.mpr ⟨List.mem_of_getElem? (i := 1077) (by decide +kernel), rfl⟩
theorem q_1078 : Cond.methodLink RX7 194 yX7_pull ∈ ALL := List.mem_filter.mpr ⟨List.mem_of_getElem? (i := 1078) (by decide +kernel), rfl⟩
theorem q_1079 : Cond.methodLink RX7 197 yX7_session ∈ ALL := List.mem_filter.mpr ⟨List.mem_of_getElem? (i := 1079) (by decide +kernel), rfl⟩
theorem q_1080 : Cond.methodLink RL 113 yX7_play ∈ ALL := List.mem_filter.mpr ⟨List.mem_of_getElem? (i := 1080) (by decide +kernel), rfl⟩
theorem q_1081 : Cond.instanceMethod yX7_play ∈ ALL := List.mem_filter.mpr ⟨List.mem_of_getElem? (i := 1081) (by decide +kernel), rfl⟩
theorem q_1082 : Cond.selects RX7 yX7_play yX7_play ∈ ALL := List.mem_filter.mpr ⟨List.mem_of_getElem? (i := 1082) (by decide +kernel), rfl⟩
theorem q_1083 : Cond.code yX7_play cX7_play 2 (some .int) ∈ ALL := List.mem_filter.mpr ⟨List.mem_of_getElem? (i := 1083) (by decide +kernel), rfl⟩
theorem uw_X0 : ∀ w ∈ u_ws RX0 TX0 3, w ∈ ALL := by decide +kernel
theorem uw_X1 : ∀ w ∈ u_ws RX1 TX1 13, w ∈ ALL := by decide +kernel
theorem uw_X2 : ∀ w ∈ u_ws RX2 TX2 1, w ∈ ALL := by decide +kernel
theorem uw_X3 : ∀ w ∈ u_ws RX3 TX3 6, w ∈ ALL := by decide +kernel
theorem uw_X4 : ∀ w ∈ u_ws RX4 TX4 5, w ∈ ALL := by decide +kernel
theorem uw_X5 : ∀ w ∈ u_ws RX5 TX5 3, w ∈ ALL := by decide +kernel
theorem uw_X6 : ∀ w ∈ u_ws RX6 TX6 11, w ∈ ALL := by decide +kernel
theorem uw_X7 : ∀ w ∈ u_ws RX7 TX7 18, w ∈ ALL := by decide +kernel
end
section
theorem dX2_init_0 : decode cX2_init 0 = .ok (.aload_n 0, 1) := by decide +kernel
theorem dX2_init_1 : decode cX2_init 1 = .ok (.invokespecial 1, 3) := by decide +kernel
theorem dX2_init_4 : decode cX2_init 4 = .ok (.aload_n 0, 1) := by decide +kernel
theorem dX2_init_5 : decode cX2_init 5 = .ok (.iload_n 1, 1) := by decide +kernel
theorem dX2_init_6 : decode cX2_init 6 = .ok (.iconst 0, 1) := by decide +kernel
theorem dX2_init_7 : decode cX2_init 7 = .ok (.invokestatic 7, 3) := by decide +kernel
theorem dX2_init_10 : decode cX2_init 10 = .ok (.newarray .int, 2) := by decide +kernel
theorem dX2_init_12 : decode cX2_init 12 = .ok (.putfield 13, 3) := by decide +kernel
theorem dX2_init_15 : decode cX2_init 15 = .ok (.return_, 1) := by decide +kernel
theorem dX2_get_0 : decode cX2_get 0 = .ok (.iload_n 1, 1) := by decide +kernel
theorem dX2_get_1 : decode cX2_get 1 = .ok (.ifCond .lt 21, 3) := by decide +kernel
theorem dX2_get_4 : decode cX2_get 4 = .ok (.iload_n 1, 1) := by decide +kernel
theorem dX2_get_5 : decode cX2_get 5 = .ok (.aload_n 0, 1) := by decide +kernel
theorem dX2_get_6 : decode cX2_get 6 = .ok (.getfield 13, 3) := by decide +kernel
theorem dX2_get_9 : decode cX2_get 9 = .ok (.arraylength, 1) := by decide +kernel
theorem dX2_get_10 : decode cX2_get 10 = .ok (.if_icmp .ge 12, 3) := by decide +kernel
theorem dX2_get_13 : decode cX2_get 13 = .ok (.aload_n 0, 1) := by decide +kernel
theorem dX2_get_14 : decode cX2_get 14 = .ok (.getfield 13, 3) := by decide +kernel
theorem dX2_get_17 : decode cX2_get 17 = .ok (.iload_n 1, 1) := by decide +kernel
theorem dX2_get_18 : decode cX2_get 18 = .ok (.iaload, 1) := by decide +kernel
theorem dX2_get_19 : decode cX2_get 19 = .ok (.goto 4, 3) := by decide +kernel
theorem dX2_get_22 : decode cX2_get 22 = .ok (.iconst 0, 1) := by decide +kernel
theorem dX2_get_23 : decode cX2_get 23 = .ok (.ireturn, 1) := by decide +kernel
theorem dX2_put_0 : decode cX2_put 0 = .ok (.iload_n 1, 1) := by decide +kernel
theorem dX2_put_1 : decode cX2_put 1 = .ok (.ifCond .lt 19, 3) := by decide +kernel
theorem dX2_put_4 : decode cX2_put 4 = .ok (.iload_n 1, 1) := by decide +kernel
theorem dX2_put_5 : decode cX2_put 5 = .ok (.aload_n 0, 1) := by decide +kernel
theorem dX2_put_6 : decode cX2_put 6 = .ok (.getfield 13, 3) := by decide +kernel
theorem dX2_put_9 : decode cX2_put 9 = .ok (.arraylength, 1) := by decide +kernel
theorem dX2_put_10 : decode cX2_put 10 = .ok (.if_icmp .ge 10, 3) := by decide +kernel
theorem dX2_put_13 : decode cX2_put 13 = .ok (.aload_n 0, 1) := by decide +kernel
theorem dX2_put_14 : decode cX2_put 14 = .ok (.getfield 13, 3) := by decide +kernel
theorem dX2_put_17 : decode cX2_put 17 = .ok (.iload_n 1, 1) := by decide +kernel
theorem dX2_put_18 : decode cX2_put 18 = .ok (.iload_n 2, 1) := by decide +kernel
theorem dX2_put_19 : decode cX2_put 19 = .ok (.iastore, 1) := by decide +kernel
theorem dX2_put_20 : decode cX2_put 20 = .ok (.return_, 1) := by decide +kernel
theorem dX2_copyFrom_0 : decode cX2_copyFrom 0 = .ok (.aload_n 1, 1) := by decide +kernel
theorem dX2_copyFrom_1 : decode cX2_copyFrom 1 = .ok (.getfield 13, 3) := by decide +kernel
theorem dX2_copyFrom_4 : decode cX2_copyFrom 4 = .ok (.iconst 0, 1) := by decide +kernel
theorem dX2_copyFrom_5 : decode cX2_copyFrom 5 = .ok (.aload_n 0, 1) := by decide +kernel
theorem dX2_copyFrom_6 : decode cX2_copyFrom 6 = .ok (.getfield 13, 3) := by decide +kernel
theorem dX2_copyFrom_9 : decode cX2_copyFrom 9 = .ok (.iconst 0, 1) := by decide +kernel
theorem dX2_copyFrom_10 : decode cX2_copyFrom 10 = .ok (.aload_n 0, 1) := by decide +kernel
theorem dX2_copyFrom_11 : decode cX2_copyFrom 11 = .ok (.getfield 13, 3) := by decide +kernel
theorem dX2_copyFrom_14 : decode cX2_copyFrom 14 = .ok (.arraylength, 1) := by decide +kernel
theorem dX2_copyFrom_15 : decode cX2_copyFrom 15 = .ok (.aload_n 1, 1) := by decide +kernel
theorem dX2_copyFrom_16 : decode cX2_copyFrom 16 = .ok (.getfield 13, 3) := by decide +kernel
theorem dX2_copyFrom_19 : decode cX2_copyFrom 19 = .ok (.arraylength, 1) := by decide +kernel
theorem dX2_copyFrom_20 : decode cX2_copyFrom 20 = .ok (.invokestatic 19, 3) := by decide +kernel
theorem dX2_copyFrom_23 : decode cX2_copyFrom 23 = .ok (.invokestatic 22, 3) := by decide +kernel
theorem dX2_copyFrom_26 : decode cX2_copyFrom 26 = .ok (.return_, 1) := by decide +kernel
theorem dX2_removeAt_0 : decode cX2_removeAt 0 = .ok (.iload_n 1, 1) := by decide +kernel
theorem dX2_removeAt_1 : decode cX2_removeAt 1 = .ok (.ifCond .ge 4, 3) := by decide +kernel
theorem dX2_removeAt_4 : decode cX2_removeAt 4 = .ok (.return_, 1) := by decide +kernel
theorem dX2_removeAt_5 : decode cX2_removeAt 5 = .ok (.iload_n 1, 1) := by decide +kernel
theorem dX2_removeAt_6 : decode cX2_removeAt 6 = .ok (.istore_n 2, 1) := by decide +kernel
theorem dX2_removeAt_7 : decode cX2_removeAt 7 = .ok (.iload_n 2, 1) := by decide +kernel
theorem dX2_removeAt_8 : decode cX2_removeAt 8 = .ok (.iconst 1, 1) := by decide +kernel
theorem dX2_removeAt_9 : decode cX2_removeAt 9 = .ok (.iadd, 1) := by decide +kernel
theorem dX2_removeAt_10 : decode cX2_removeAt 10 = .ok (.aload_n 0, 1) := by decide +kernel
theorem dX2_removeAt_11 : decode cX2_removeAt 11 = .ok (.getfield 13, 3) := by decide +kernel
theorem dX2_removeAt_14 : decode cX2_removeAt 14 = .ok (.arraylength, 1) := by decide +kernel
theorem dX2_removeAt_15 : decode cX2_removeAt 15 = .ok (.if_icmp .ge 23, 3) := by decide +kernel
theorem dX2_removeAt_18 : decode cX2_removeAt 18 = .ok (.aload_n 0, 1) := by decide +kernel
theorem dX2_removeAt_19 : decode cX2_removeAt 19 = .ok (.getfield 13, 3) := by decide +kernel
theorem dX2_removeAt_22 : decode cX2_removeAt 22 = .ok (.iload_n 2, 1) := by decide +kernel
theorem dX2_removeAt_23 : decode cX2_removeAt 23 = .ok (.aload_n 0, 1) := by decide +kernel
theorem dX2_removeAt_24 : decode cX2_removeAt 24 = .ok (.getfield 13, 3) := by decide +kernel
theorem dX2_removeAt_27 : decode cX2_removeAt 27 = .ok (.iload_n 2, 1) := by decide +kernel
theorem dX2_removeAt_28 : decode cX2_removeAt 28 = .ok (.iconst 1, 1) := by decide +kernel
theorem dX2_removeAt_29 : decode cX2_removeAt 29 = .ok (.iadd, 1) := by decide +kernel
theorem dX2_removeAt_30 : decode cX2_removeAt 30 = .ok (.iaload, 1) := by decide +kernel
theorem dX2_removeAt_31 : decode cX2_removeAt 31 = .ok (.iastore, 1) := by decide +kernel
theorem dX2_removeAt_32 : decode cX2_removeAt 32 = .ok (.iinc 2 1, 3) := by decide +kernel
theorem dX2_removeAt_35 : decode cX2_removeAt 35 = .ok (.goto (-28), 3) := by decide +kernel
theorem dX2_removeAt_38 : decode cX2_removeAt 38 = .ok (.return_, 1) := by decide +kernel
theorem dX0_init_0 : decode cX0_init 0 = .ok (.aload_n 0, 1) := by decide +kernel
theorem dX0_init_1 : decode cX0_init 1 = .ok (.invokespecial 3, 3) := by decide +kernel
theorem dX0_init_4 : decode cX0_init 4 = .ok (.aload_n 0, 1) := by decide +kernel
theorem dX0_init_5 : decode cX0_init 5 = .ok (.new 9, 3) := by decide +kernel
theorem dX0_init_8 : decode cX0_init 8 = .ok (.dup, 1) := by decide +kernel
theorem dX0_init_9 : decode cX0_init 9 = .ok (.bipush 32, 2) := by decide +kernel
theorem dX0_init_11 : decode cX0_init 11 = .ok (.invokespecial 11, 3) := by decide +kernel
theorem dX0_init_14 : decode cX0_init 14 = .ok (.putfield 14, 3) := by decide +kernel
theorem dX0_init_17 : decode cX0_init 17 = .ok (.return_, 1) := by decide +kernel
theorem dX0_copyFrom_0 : decode cX0_copyFrom 0 = .ok (.aload_n 0, 1) := by decide +kernel
theorem dX0_copyFrom_1 : decode cX0_copyFrom 1 = .ok (.getfield 14, 3) := by decide +kernel
theorem dX0_copyFrom_4 : decode cX0_copyFrom 4 = .ok (.aload_n 1, 1) := by decide +kernel
theorem dX0_copyFrom_5 : decode cX0_copyFrom 5 = .ok (.getfield 14, 3) := by decide +kernel
theorem dX0_copyFrom_8 : decode cX0_copyFrom 8 = .ok (.invokevirtual 20, 3) := by decide +kernel
theorem dX0_copyFrom_11 : decode cX0_copyFrom 11 = .ok (.aload_n 0, 1) := by decide +kernel
theorem dX0_copyFrom_12 : decode cX0_copyFrom 12 = .ok (.aload_n 1, 1) := by decide +kernel
theorem dX0_copyFrom_13 : decode cX0_copyFrom 13 = .ok (.getfield 24, 3) := by decide +kernel
theorem dX0_copyFrom_16 : decode cX0_copyFrom 16 = .ok (.putfield 24, 3) := by decide +kernel
theorem dX0_copyFrom_19 : decode cX0_copyFrom 19 = .ok (.aload_n 0, 1) := by decide +kernel
theorem dX0_copyFrom_20 : decode cX0_copyFrom 20 = .ok (.aload_n 1, 1) := by decide +kernel
theorem dX0_copyFrom_21 : decode cX0_copyFrom 21 = .ok (.getfield 28, 3) := by decide +kernel
theorem dX0_copyFrom_24 : decode cX0_copyFrom 24 = .ok (.putfield 28, 3) := by decide +kernel
theorem dX0_copyFrom_27 : decode cX0_copyFrom 27 = .ok (.return_, 1) := by decide +kernel
theorem dX0_kept_0 : decode cX0_kept 0 = .ok (.aload_n 0, 1) := by decide +kernel
theorem dX0_kept_1 : decode cX0_kept 1 = .ok (.getfield 24, 3) := by decide +kernel
theorem dX0_kept_4 : decode cX0_kept 4 = .ok (.bipush 8, 2) := by decide +kernel
theorem dX0_kept_6 : decode cX0_kept 6 = .ok (.invokestatic 31, 3) := by decide +kernel
theorem dX0_kept_9 : decode cX0_kept 9 = .ok (.ireturn, 1) := by decide +kernel
theorem dX0_entry_0 : decode cX0_entry 0 = .ok (.aload_n 0, 1) := by decide +kernel
theorem dX0_entry_1 : decode cX0_entry 1 = .ok (.getfield 14, 3) := by decide +kernel
theorem dX0_entry_4 : decode cX0_entry 4 = .ok (.iload_n 1, 1) := by decide +kernel
theorem dX0_entry_5 : decode cX0_entry 5 = .ok (.iconst 4, 1) := by decide +kernel
theorem dX0_entry_6 : decode cX0_entry 6 = .ok (.imul, 1) := by decide +kernel
theorem dX0_entry_7 : decode cX0_entry 7 = .ok (.iload_n 2, 1) := by decide +kernel
theorem dX0_entry_8 : decode cX0_entry 8 = .ok (.iadd, 1) := by decide +kernel
theorem dX0_entry_9 : decode cX0_entry 9 = .ok (.invokevirtual 37, 3) := by decide +kernel
theorem dX0_entry_12 : decode cX0_entry 12 = .ok (.ireturn, 1) := by decide +kernel
theorem dX0_enter_0 : decode cX0_enter 0 = .ok (.bipush 31, 2) := by decide +kernel
theorem dX0_enter_2 : decode cX0_enter 2 = .ok (.istore 5, 2) := by decide +kernel
theorem dX0_enter_4 : decode cX0_enter 4 = .ok (.iload 5, 2) := by decide +kernel
theorem dX0_enter_6 : decode cX0_enter 6 = .ok (.iconst 4, 1) := by decide +kernel
theorem dX0_enter_7 : decode cX0_enter 7 = .ok (.if_icmp .lt 29, 3) := by decide +kernel
theorem dX0_enter_10 : decode cX0_enter 10 = .ok (.aload_n 0, 1) := by decide +kernel
theorem dX0_enter_11 : decode cX0_enter 11 = .ok (.getfield 14, 3) := by decide +kernel
theorem dX0_enter_14 : decode cX0_enter 14 = .ok (.iload 5, 2) := by decide +kernel
theorem dX0_enter_16 : decode cX0_enter 16 = .ok (.aload_n 0, 1) := by decide +kernel
theorem dX0_enter_17 : decode cX0_enter 17 = .ok (.getfield 14, 3) := by decide +kernel
theorem dX0_enter_20 : decode cX0_enter 20 = .ok (.iload 5, 2) := by decide +kernel
theorem dX0_enter_22 : decode cX0_enter 22 = .ok (.iconst 4, 1) := by decide +kernel
theorem dX0_enter_23 : decode cX0_enter 23 = .ok (.isub, 1) := by decide +kernel
theorem dX0_enter_24 : decode cX0_enter 24 = .ok (.invokevirtual 37, 3) := by decide +kernel
theorem dX0_enter_27 : decode cX0_enter 27 = .ok (.invokevirtual 41, 3) := by decide +kernel
theorem dX0_enter_30 : decode cX0_enter 30 = .ok (.iinc 5 (-1), 3) := by decide +kernel
theorem dX0_enter_33 : decode cX0_enter 33 = .ok (.goto (-29), 3) := by decide +kernel
theorem dX0_enter_36 : decode cX0_enter 36 = .ok (.aload_n 0, 1) := by decide +kernel
theorem dX0_enter_37 : decode cX0_enter 37 = .ok (.getfield 14, 3) := by decide +kernel
theorem dX0_enter_40 : decode cX0_enter 40 = .ok (.iconst 0, 1) := by decide +kernel
theorem dX0_enter_41 : decode cX0_enter 41 = .ok (.iload_n 1, 1) := by decide +kernel
theorem dX0_enter_42 : decode cX0_enter 42 = .ok (.invokevirtual 41, 3) := by decide +kernel
theorem dX0_enter_45 : decode cX0_enter 45 = .ok (.aload_n 0, 1) := by decide +kernel
theorem dX0_enter_46 : decode cX0_enter 46 = .ok (.getfield 14, 3) := by decide +kernel
theorem dX0_enter_49 : decode cX0_enter 49 = .ok (.iconst 1, 1) := by decide +kernel
theorem dX0_enter_50 : decode cX0_enter 50 = .ok (.iload_n 2, 1) := by decide +kernel
theorem dX0_enter_51 : decode cX0_enter 51 = .ok (.invokevirtual 41, 3) := by decide +kernel
theorem dX0_enter_54 : decode cX0_enter 54 = .ok (.aload_n 0, 1) := by decide +kernel
theorem dX0_enter_55 : decode cX0_enter 55 = .ok (.getfield 14, 3) := by decide +kernel
theorem dX0_enter_58 : decode cX0_enter 58 = .ok (.iconst 2, 1) := by decide +kernel
theorem dX0_enter_59 : decode cX0_enter 59 = .ok (.iload_n 3, 1) := by decide +kernel
theorem dX0_enter_60 : decode cX0_enter 60 = .ok (.invokevirtual 41, 3) := by decide +kernel
theorem dX0_enter_63 : decode cX0_enter 63 = .ok (.aload_n 0, 1) := by decide +kernel
theorem dX0_enter_64 : decode cX0_enter 64 = .ok (.getfield 14, 3) := by decide +kernel
theorem dX0_enter_67 : decode cX0_enter 67 = .ok (.iconst 3, 1) := by decide +kernel
theorem dX0_enter_68 : decode cX0_enter 68 = .ok (.iload 4, 2) := by decide +kernel
theorem dX0_enter_70 : decode cX0_enter 70 = .ok (.invokevirtual 41, 3) := by decide +kernel
theorem dX0_enter_73 : decode cX0_enter 73 = .ok (.aload_n 0, 1) := by decide +kernel
theorem dX0_enter_74 : decode cX0_enter 74 = .ok (.dup, 1) := by decide +kernel
theorem dX0_enter_75 : decode cX0_enter 75 = .ok (.getfield 24, 3) := by decide +kernel
theorem dX0_enter_78 : decode cX0_enter 78 = .ok (.iconst 1, 1) := by decide +kernel
theorem dX0_enter_79 : decode cX0_enter 79 = .ok (.iadd, 1) := by decide +kernel
theorem dX0_enter_80 : decode cX0_enter 80 = .ok (.putfield 24, 3) := by decide +kernel
theorem dX0_enter_83 : decode cX0_enter 83 = .ok (.aload_n 0, 1) := by decide +kernel
theorem dX0_enter_84 : decode cX0_enter 84 = .ok (.dup, 1) := by decide +kernel
theorem dX0_enter_85 : decode cX0_enter 85 = .ok (.getfield 28, 3) := by decide +kernel
theorem dX0_enter_88 : decode cX0_enter 88 = .ok (.iload_n 3, 1) := by decide +kernel
theorem dX0_enter_89 : decode cX0_enter 89 = .ok (.iadd, 1) := by decide +kernel
theorem dX0_enter_90 : decode cX0_enter 90 = .ok (.putfield 28, 3) := by decide +kernel
theorem dX0_enter_93 : decode cX0_enter 93 = .ok (.return_, 1) := by decide +kernel
theorem dX3_init_0 : decode cX3_init 0 = .ok (.aload_n 0, 1) := by decide +kernel
theorem dX3_init_1 : decode cX3_init 1 = .ok (.invokespecial 3, 3) := by decide +kernel
theorem dX3_init_4 : decode cX3_init 4 = .ok (.aload_n 0, 1) := by decide +kernel
theorem dX3_init_5 : decode cX3_init 5 = .ok (.new 9, 3) := by decide +kernel
theorem dX3_init_8 : decode cX3_init 8 = .ok (.dup, 1) := by decide +kernel
theorem dX3_init_9 : decode cX3_init 9 = .ok (.bipush 20, 2) := by decide +kernel
theorem dX3_init_11 : decode cX3_init 11 = .ok (.invokespecial 11, 3) := by decide +kernel
theorem dX3_init_14 : decode cX3_init 14 = .ok (.putfield 14, 3) := by decide +kernel
theorem dX3_init_17 : decode cX3_init 17 = .ok (.aload_n 0, 1) := by decide +kernel
theorem dX3_init_18 : decode cX3_init 18 = .ok (.new 9, 3) := by decide +kernel
theorem dX3_init_21 : decode cX3_init 21 = .ok (.dup, 1) := by decide +kernel
theorem dX3_init_22 : decode cX3_init 22 = .ok (.bipush 20, 2) := by decide +kernel
theorem dX3_init_24 : decode cX3_init 24 = .ok (.invokespecial 11, 3) := by decide +kernel
theorem dX3_init_27 : decode cX3_init 27 = .ok (.putfield 20, 3) := by decide +kernel
theorem dX3_init_30 : decode cX3_init 30 = .ok (.aload_n 0, 1) := by decide +kernel
theorem dX3_init_31 : decode cX3_init 31 = .ok (.new 9, 3) := by decide +kernel
theorem dX3_init_34 : decode cX3_init 34 = .ok (.dup, 1) := by decide +kernel
theorem dX3_init_35 : decode cX3_init 35 = .ok (.bipush 20, 2) := by decide +kernel
theorem dX3_init_37 : decode cX3_init 37 = .ok (.invokespecial 11, 3) := by decide +kernel
theorem dX3_init_40 : decode cX3_init 40 = .ok (.putfield 23, 3) := by decide +kernel
theorem dX3_init_43 : decode cX3_init 43 = .ok (.aload_n 0, 1) := by decide +kernel
theorem dX3_init_44 : decode cX3_init 44 = .ok (.new 9, 3) := by decide +kernel
theorem dX3_init_47 : decode cX3_init 47 = .ok (.dup, 1) := by decide +kernel
theorem dX3_init_48 : decode cX3_init 48 = .ok (.bipush 20, 2) := by decide +kernel
theorem dX3_init_50 : decode cX3_init 50 = .ok (.invokespecial 11, 3) := by decide +kernel
theorem dX3_init_53 : decode cX3_init 53 = .ok (.putfield 26, 3) := by decide +kernel
theorem dX3_init_56 : decode cX3_init 56 = .ok (.return_, 1) := by decide +kernel
theorem dX3_copyFrom_0 : decode cX3_copyFrom 0 = .ok (.aload_n 0, 1) := by decide +kernel
theorem dX3_copyFrom_1 : decode cX3_copyFrom 1 = .ok (.getfield 14, 3) := by decide +kernel
theorem dX3_copyFrom_4 : decode cX3_copyFrom 4 = .ok (.aload_n 1, 1) := by decide +kernel
theorem dX3_copyFrom_5 : decode cX3_copyFrom 5 = .ok (.getfield 14, 3) := by decide +kernel
theorem dX3_copyFrom_8 : decode cX3_copyFrom 8 = .ok (.invokevirtual 29, 3) := by decide +kernel
theorem dX3_copyFrom_11 : decode cX3_copyFrom 11 = .ok (.aload_n 0, 1) := by decide +kernel
theorem dX3_copyFrom_12 : decode cX3_copyFrom 12 = .ok (.getfield 20, 3) := by decide +kernel
theorem dX3_copyFrom_15 : decode cX3_copyFrom 15 = .ok (.aload_n 1, 1) := by decide +kernel
theorem dX3_copyFrom_16 : decode cX3_copyFrom 16 = .ok (.getfield 20, 3) := by decide +kernel
theorem dX3_copyFrom_19 : decode cX3_copyFrom 19 = .ok (.invokevirtual 29, 3) := by decide +kernel
theorem dX3_copyFrom_22 : decode cX3_copyFrom 22 = .ok (.aload_n 0, 1) := by decide +kernel
theorem dX3_copyFrom_23 : decode cX3_copyFrom 23 = .ok (.getfield 23, 3) := by decide +kernel
theorem dX3_copyFrom_26 : decode cX3_copyFrom 26 = .ok (.aload_n 1, 1) := by decide +kernel
theorem dX3_copyFrom_27 : decode cX3_copyFrom 27 = .ok (.getfield 23, 3) := by decide +kernel
theorem dX3_copyFrom_30 : decode cX3_copyFrom 30 = .ok (.invokevirtual 29, 3) := by decide +kernel
theorem dX3_copyFrom_33 : decode cX3_copyFrom 33 = .ok (.aload_n 0, 1) := by decide +kernel
theorem dX3_copyFrom_34 : decode cX3_copyFrom 34 = .ok (.getfield 26, 3) := by decide +kernel
theorem dX3_copyFrom_37 : decode cX3_copyFrom 37 = .ok (.aload_n 1, 1) := by decide +kernel
theorem dX3_copyFrom_38 : decode cX3_copyFrom 38 = .ok (.getfield 26, 3) := by decide +kernel
theorem dX3_copyFrom_41 : decode cX3_copyFrom 41 = .ok (.invokevirtual 29, 3) := by decide +kernel
theorem dX3_copyFrom_44 : decode cX3_copyFrom 44 = .ok (.aload_n 0, 1) := by decide +kernel
theorem dX3_copyFrom_45 : decode cX3_copyFrom 45 = .ok (.aload_n 1, 1) := by decide +kernel
theorem dX3_copyFrom_46 : decode cX3_copyFrom 46 = .ok (.getfield 33, 3) := by decide +kernel
theorem dX3_copyFrom_49 : decode cX3_copyFrom 49 = .ok (.putfield 33, 3) := by decide +kernel
theorem dX3_copyFrom_52 : decode cX3_copyFrom 52 = .ok (.aload_n 0, 1) := by decide +kernel
theorem dX3_copyFrom_53 : decode cX3_copyFrom 53 = .ok (.aload_n 1, 1) := by decide +kernel
theorem dX3_copyFrom_54 : decode cX3_copyFrom 54 = .ok (.getfield 37, 3) := by decide +kernel
theorem dX3_copyFrom_57 : decode cX3_copyFrom 57 = .ok (.putfield 37, 3) := by decide +kernel
theorem dX3_copyFrom_60 : decode cX3_copyFrom 60 = .ok (.return_, 1) := by decide +kernel
theorem dX3_has_0 : decode cX3_has 0 = .ok (.iload_n 1, 1) := by decide +kernel
theorem dX3_has_1 : decode cX3_has 1 = .ok (.ifCond .lt 15, 3) := by decide +kernel
theorem dX3_has_4 : decode cX3_has 4 = .ok (.iload_n 1, 1) := by decide +kernel
theorem dX3_has_5 : decode cX3_has 5 = .ok (.aload_n 0, 1) := by decide +kernel
theorem dX3_has_6 : decode cX3_has 6 = .ok (.getfield 33, 3) := by decide +kernel
theorem dX3_has_9 : decode cX3_has 9 = .ok (.if_icmp .ge 7, 3) := by decide +kernel
theorem dX3_has_12 : decode cX3_has 12 = .ok (.iconst 1, 1) := by decide +kernel
theorem dX3_has_13 : decode cX3_has 13 = .ok (.goto 4, 3) := by decide +kernel
theorem dX3_has_16 : decode cX3_has 16 = .ok (.iconst 0, 1) := by decide +kernel
theorem dX3_has_17 : decode cX3_has 17 = .ok (.ireturn, 1) := by decide +kernel
theorem dX3_append_0 : decode cX3_append 0 = .ok (.aload_n 0, 1) := by decide +kernel
theorem dX3_append_1 : decode cX3_append 1 = .ok (.getfield 14, 3) := by decide +kernel
theorem dX3_append_4 : decode cX3_append 4 = .ok (.aload_n 0, 1) := by decide +kernel
theorem dX3_append_5 : decode cX3_append 5 = .ok (.getfield 33, 3) := by decide +kernel
theorem dX3_append_8 : decode cX3_append 8 = .ok (.iload_n 1, 1) := by decide +kernel
theorem dX3_append_9 : decode cX3_append 9 = .ok (.iload_n 2, 1) := by decide +kernel
theorem dX3_append_10 : decode cX3_append 10 = .ok (.invokestatic 40, 3) := by decide +kernel
theorem dX3_append_13 : decode cX3_append 13 = .ok (.invokevirtual 46, 3) := by decide +kernel
theorem dX3_append_16 : decode cX3_append 16 = .ok (.aload_n 0, 1) := by decide +kernel
theorem dX3_append_17 : decode cX3_append 17 = .ok (.getfield 20, 3) := by decide +kernel
theorem dX3_append_20 : decode cX3_append 20 = .ok (.aload_n 0, 1) := by decide +kernel
theorem dX3_append_21 : decode cX3_append 21 = .ok (.getfield 33, 3) := by decide +kernel
theorem dX3_append_24 : decode cX3_append 24 = .ok (.iload_n 1, 1) := by decide +kernel
theorem dX3_append_25 : decode cX3_append 25 = .ok (.iload_n 2, 1) := by decide +kernel
theorem dX3_append_26 : decode cX3_append 26 = .ok (.invokestatic 50, 3) := by decide +kernel
theorem dX3_append_29 : decode cX3_append 29 = .ok (.invokevirtual 46, 3) := by decide +kernel
theorem dX3_append_32 : decode cX3_append 32 = .ok (.aload_n 0, 1) := by decide +kernel
theorem dX3_append_33 : decode cX3_append 33 = .ok (.getfield 23, 3) := by decide +kernel
theorem dX3_append_36 : decode cX3_append 36 = .ok (.aload_n 0, 1) := by decide +kernel
theorem dX3_append_37 : decode cX3_append 37 = .ok (.getfield 33, 3) := by decide +kernel
theorem dX3_append_40 : decode cX3_append 40 = .ok (.iload_n 3, 1) := by decide +kernel
theorem dX3_append_41 : decode cX3_append 41 = .ok (.invokevirtual 46, 3) := by decide +kernel
theorem dX3_append_44 : decode cX3_append 44 = .ok (.aload_n 0, 1) := by decide +kernel
theorem dX3_append_45 : decode cX3_append 45 = .ok (.getfield 26, 3) := by decide +kernel
theorem dX3_append_48 : decode cX3_append 48 = .ok (.aload_n 0, 1) := by decide +kernel
theorem dX3_append_49 : decode cX3_append 49 = .ok (.getfield 33, 3) := by decide +kernel
theorem dX3_append_52 : decode cX3_append 52 = .ok (.iload 4, 2) := by decide +kernel
theorem dX3_append_54 : decode cX3_append 54 = .ok (.invokevirtual 46, 3) := by decide +kernel
theorem dX3_append_57 : decode cX3_append 57 = .ok (.aload_n 0, 1) := by decide +kernel
theorem dX3_append_58 : decode cX3_append 58 = .ok (.dup, 1) := by decide +kernel
theorem dX3_append_59 : decode cX3_append 59 = .ok (.getfield 33, 3) := by decide +kernel
theorem dX3_append_62 : decode cX3_append 62 = .ok (.iconst 1, 1) := by decide +kernel
theorem dX3_append_63 : decode cX3_append 63 = .ok (.iadd, 1) := by decide +kernel
theorem dX3_append_64 : decode cX3_append 64 = .ok (.putfield 33, 3) := by decide +kernel
theorem dX3_append_67 : decode cX3_append 67 = .ok (.aload_n 0, 1) := by decide +kernel
theorem dX3_append_68 : decode cX3_append 68 = .ok (.getfield 33, 3) := by decide +kernel
theorem dX3_append_71 : decode cX3_append 71 = .ok (.iconst 1, 1) := by decide +kernel
theorem dX3_append_72 : decode cX3_append 72 = .ok (.isub, 1) := by decide +kernel
theorem dX3_append_73 : decode cX3_append 73 = .ok (.ireturn, 1) := by decide +kernel
theorem dX3_removeAt_0 : decode cX3_removeAt 0 = .ok (.aload_n 0, 1) := by decide +kernel
theorem dX3_removeAt_1 : decode cX3_removeAt 1 = .ok (.getfield 14, 3) := by decide +kernel
theorem dX3_removeAt_4 : decode cX3_removeAt 4 = .ok (.iload_n 1, 1) := by decide +kernel
theorem dX3_removeAt_5 : decode cX3_removeAt 5 = .ok (.invokevirtual 53, 3) := by decide +kernel
theorem dX3_removeAt_8 : decode cX3_removeAt 8 = .ok (.aload_n 0, 1) := by decide +kernel
theorem dX3_removeAt_9 : decode cX3_removeAt 9 = .ok (.getfield 20, 3) := by decide +kernel
theorem dX3_removeAt_12 : decode cX3_removeAt 12 = .ok (.iload_n 1, 1) := by decide +kernel
theorem dX3_removeAt_13 : decode cX3_removeAt 13 = .ok (.invokevirtual 53, 3) := by decide +kernel
theorem dX3_removeAt_16 : decode cX3_removeAt 16 = .ok (.aload_n 0, 1) := by decide +kernel
theorem dX3_removeAt_17 : decode cX3_removeAt 17 = .ok (.getfield 23, 3) := by decide +kernel
theorem dX3_removeAt_20 : decode cX3_removeAt 20 = .ok (.iload_n 1, 1) := by decide +kernel
theorem dX3_removeAt_21 : decode cX3_removeAt 21 = .ok (.invokevirtual 53, 3) := by decide +kernel
theorem dX3_removeAt_24 : decode cX3_removeAt 24 = .ok (.aload_n 0, 1) := by decide +kernel
theorem dX3_removeAt_25 : decode cX3_removeAt 25 = .ok (.getfield 26, 3) := by decide +kernel
theorem dX3_removeAt_28 : decode cX3_removeAt 28 = .ok (.iload_n 1, 1) := by decide +kernel
theorem dX3_removeAt_29 : decode cX3_removeAt 29 = .ok (.invokevirtual 53, 3) := by decide +kernel
theorem dX3_removeAt_32 : decode cX3_removeAt 32 = .ok (.aload_n 0, 1) := by decide +kernel
theorem dX3_removeAt_33 : decode cX3_removeAt 33 = .ok (.dup, 1) := by decide +kernel
theorem dX3_removeAt_34 : decode cX3_removeAt 34 = .ok (.getfield 33, 3) := by decide +kernel
theorem dX3_removeAt_37 : decode cX3_removeAt 37 = .ok (.iconst 1, 1) := by decide +kernel
theorem dX3_removeAt_38 : decode cX3_removeAt 38 = .ok (.isub, 1) := by decide +kernel
theorem dX3_removeAt_39 : decode cX3_removeAt 39 = .ok (.putfield 33, 3) := by decide +kernel
theorem dX3_removeAt_42 : decode cX3_removeAt 42 = .ok (.aload_n 0, 1) := by decide +kernel
theorem dX3_removeAt_43 : decode cX3_removeAt 43 = .ok (.dup, 1) := by decide +kernel
theorem dX3_removeAt_44 : decode cX3_removeAt 44 = .ok (.getfield 37, 3) := by decide +kernel
theorem dX3_removeAt_47 : decode cX3_removeAt 47 = .ok (.iconst 1, 1) := by decide +kernel
theorem dX3_removeAt_48 : decode cX3_removeAt 48 = .ok (.iadd, 1) := by decide +kernel
theorem dX3_removeAt_49 : decode cX3_removeAt 49 = .ok (.putfield 37, 3) := by decide +kernel
theorem dX3_removeAt_52 : decode cX3_removeAt 52 = .ok (.return_, 1) := by decide +kernel
theorem dX3_removeAllOf_0 : decode cX3_removeAllOf 0 = .ok (.iconst 0, 1) := by decide +kernel
theorem dX3_removeAllOf_1 : decode cX3_removeAllOf 1 = .ok (.istore_n 2, 1) := by decide +kernel
theorem dX3_removeAllOf_2 : decode cX3_removeAllOf 2 = .ok (.aload_n 0, 1) := by decide +kernel
theorem dX3_removeAllOf_3 : decode cX3_removeAllOf 3 = .ok (.getfield 33, 3) := by decide +kernel
theorem dX3_removeAllOf_6 : decode cX3_removeAllOf 6 = .ok (.iconst 1, 1) := by decide +kernel
theorem dX3_removeAllOf_7 : decode cX3_removeAllOf 7 = .ok (.isub, 1) := by decide +kernel
theorem dX3_removeAllOf_8 : decode cX3_removeAllOf 8 = .ok (.istore_n 3, 1) := by decide +kernel
theorem dX3_removeAllOf_9 : decode cX3_removeAllOf 9 = .ok (.iload_n 3, 1) := by decide +kernel
theorem dX3_removeAllOf_10 : decode cX3_removeAllOf 10 = .ok (.ifCond .lt 29, 3) := by decide +kernel
theorem dX3_removeAllOf_13 : decode cX3_removeAllOf 13 = .ok (.aload_n 0, 1) := by decide +kernel
theorem dX3_removeAllOf_14 : decode cX3_removeAllOf 14 = .ok (.getfield 26, 3) := by decide +kernel
theorem dX3_removeAllOf_17 : decode cX3_removeAllOf 17 = .ok (.iload_n 3, 1) := by decide +kernel
theorem dX3_removeAllOf_18 : decode cX3_removeAllOf 18 = .ok (.invokevirtual 56, 3) := by decide +kernel
theorem dX3_removeAllOf_21 : decode cX3_removeAllOf 21 = .ok (.iload_n 1, 1) := by decide +kernel
theorem dX3_removeAllOf_22 : decode cX3_removeAllOf 22 = .ok (.if_icmp .ne 11, 3) := by decide +kernel
theorem dX3_removeAllOf_25 : decode cX3_removeAllOf 25 = .ok (.aload_n 0, 1) := by decide +kernel
theorem dX3_removeAllOf_26 : decode cX3_removeAllOf 26 = .ok (.iload_n 3, 1) := by decide +kernel
theorem dX3_removeAllOf_27 : decode cX3_removeAllOf 27 = .ok (.invokevirtual 60, 3) := by decide +kernel
theorem dX3_removeAllOf_30 : decode cX3_removeAllOf 30 = .ok (.iinc 2 1, 3) := by decide +kernel
theorem dX3_removeAllOf_33 : decode cX3_removeAllOf 33 = .ok (.iinc 3 (-1), 3) := by decide +kernel
theorem dX3_removeAllOf_36 : decode cX3_removeAllOf 36 = .ok (.goto (-27), 3) := by decide +kernel
theorem dX3_removeAllOf_39 : decode cX3_removeAllOf 39 = .ok (.iload_n 2, 1) := by decide +kernel
theorem dX3_removeAllOf_40 : decode cX3_removeAllOf 40 = .ok (.ireturn, 1) := by decide +kernel
theorem dX3_areTied_0 : decode cX3_areTied 0 = .ok (.iload_n 1, 1) := by decide +kernel
theorem dX3_areTied_1 : decode cX3_areTied 1 = .ok (.iload_n 2, 1) := by decide +kernel
theorem dX3_areTied_2 : decode cX3_areTied 2 = .ok (.invokestatic 40, 3) := by decide +kernel
theorem dX3_areTied_5 : decode cX3_areTied 5 = .ok (.istore_n 3, 1) := by decide +kernel
theorem dX3_areTied_6 : decode cX3_areTied 6 = .ok (.iload_n 1, 1) := by decide +kernel
theorem dX3_areTied_7 : decode cX3_areTied 7 = .ok (.iload_n 2, 1) := by decide +kernel
theorem dX3_areTied_8 : decode cX3_areTied 8 = .ok (.invokestatic 50, 3) := by decide +kernel
theorem dX3_areTied_11 : decode cX3_areTied 11 = .ok (.istore 4, 2) := by decide +kernel
theorem dX3_areTied_13 : decode cX3_areTied 13 = .ok (.iconst 0, 1) := by decide +kernel
theorem dX3_areTied_14 : decode cX3_areTied 14 = .ok (.istore 5, 2) := by decide +kernel
theorem dX3_areTied_16 : decode cX3_areTied 16 = .ok (.iload 5, 2) := by decide +kernel
theorem dX3_areTied_18 : decode cX3_areTied 18 = .ok (.aload_n 0, 1) := by decide +kernel
theorem dX3_areTied_19 : decode cX3_areTied 19 = .ok (.getfield 33, 3) := by decide +kernel
theorem dX3_areTied_22 : decode cX3_areTied 22 = .ok (.if_icmp .ge 38, 3) := by decide +kernel
theorem dX3_areTied_25 : decode cX3_areTied 25 = .ok (.aload_n 0, 1) := by decide +kernel
theorem dX3_areTied_26 : decode cX3_areTied 26 = .ok (.getfield 14, 3) := by decide +kernel
theorem dX3_areTied_29 : decode cX3_areTied 29 = .ok (.iload 5, 2) := by decide +kernel
theorem dX3_areTied_31 : decode cX3_areTied 31 = .ok (.invokevirtual 56, 3) := by decide +kernel
theorem dX3_areTied_34 : decode cX3_areTied 34 = .ok (.iload_n 3, 1) := by decide +kernel
theorem dX3_areTied_35 : decode cX3_areTied 35 = .ok (.if_icmp .ne 19, 3) := by decide +kernel
theorem dX3_areTied_38 : decode cX3_areTied 38 = .ok (.aload_n 0, 1) := by decide +kernel
theorem dX3_areTied_39 : decode cX3_areTied 39 = .ok (.getfield 20, 3) := by decide +kernel
theorem dX3_areTied_42 : decode cX3_areTied 42 = .ok (.iload 5, 2) := by decide +kernel
theorem dX3_areTied_44 : decode cX3_areTied 44 = .ok (.invokevirtual 56, 3) := by decide +kernel
theorem dX3_areTied_47 : decode cX3_areTied 47 = .ok (.iload 4, 2) := by decide +kernel
theorem dX3_areTied_49 : decode cX3_areTied 49 = .ok (.if_icmp .ne 5, 3) := by decide +kernel
theorem dX3_areTied_52 : decode cX3_areTied 52 = .ok (.iconst 1, 1) := by decide +kernel
theorem dX3_areTied_53 : decode cX3_areTied 53 = .ok (.ireturn, 1) := by decide +kernel
theorem dX3_areTied_54 : decode cX3_areTied 54 = .ok (.iinc 5 1, 3) := by decide +kernel
theorem dX3_areTied_57 : decode cX3_areTied 57 = .ok (.goto (-41), 3) := by decide +kernel
theorem dX3_areTied_60 : decode cX3_areTied 60 = .ok (.iconst 0, 1) := by decide +kernel
theorem dX3_areTied_61 : decode cX3_areTied 61 = .ok (.ireturn, 1) := by decide +kernel
theorem dX3_howManyAt_0 : decode cX3_howManyAt 0 = .ok (.iconst 0, 1) := by decide +kernel
theorem dX3_howManyAt_1 : decode cX3_howManyAt 1 = .ok (.istore_n 2, 1) := by decide +kernel
theorem dX3_howManyAt_2 : decode cX3_howManyAt 2 = .ok (.iconst 0, 1) := by decide +kernel
theorem dX3_howManyAt_3 : decode cX3_howManyAt 3 = .ok (.istore_n 3, 1) := by decide +kernel
theorem dX3_howManyAt_4 : decode cX3_howManyAt 4 = .ok (.iload_n 3, 1) := by decide +kernel
theorem dX3_howManyAt_5 : decode cX3_howManyAt 5 = .ok (.aload_n 0, 1) := by decide +kernel
theorem dX3_howManyAt_6 : decode cX3_howManyAt 6 = .ok (.getfield 33, 3) := by decide +kernel
theorem dX3_howManyAt_9 : decode cX3_howManyAt 9 = .ok (.if_icmp .ge 36, 3) := by decide +kernel
theorem dX3_howManyAt_12 : decode cX3_howManyAt 12 = .ok (.aload_n 0, 1) := by decide +kernel
theorem dX3_howManyAt_13 : decode cX3_howManyAt 13 = .ok (.getfield 14, 3) := by decide +kernel
theorem dX3_howManyAt_16 : decode cX3_howManyAt 16 = .ok (.iload_n 3, 1) := by decide +kernel
theorem dX3_howManyAt_17 : decode cX3_howManyAt 17 = .ok (.invokevirtual 56, 3) := by decide +kernel
theorem dX3_howManyAt_20 : decode cX3_howManyAt 20 = .ok (.iload_n 1, 1) := by decide +kernel
theorem dX3_howManyAt_21 : decode cX3_howManyAt 21 = .ok (.if_icmp .eq 15, 3) := by decide +kernel
theorem dX3_howManyAt_24 : decode cX3_howManyAt 24 = .ok (.aload_n 0, 1) := by decide +kernel
theorem dX3_howManyAt_25 : decode cX3_howManyAt 25 = .ok (.getfield 20, 3) := by decide +kernel
theorem dX3_howManyAt_28 : decode cX3_howManyAt 28 = .ok (.iload_n 3, 1) := by decide +kernel
theorem dX3_howManyAt_29 : decode cX3_howManyAt 29 = .ok (.invokevirtual 56, 3) := by decide +kernel
theorem dX3_howManyAt_32 : decode cX3_howManyAt 32 = .ok (.iload_n 1, 1) := by decide +kernel
theorem dX3_howManyAt_33 : decode cX3_howManyAt 33 = .ok (.if_icmp .ne 6, 3) := by decide +kernel
theorem dX3_howManyAt_36 : decode cX3_howManyAt 36 = .ok (.iinc 2 1, 3) := by decide +kernel
theorem dX3_howManyAt_39 : decode cX3_howManyAt 39 = .ok (.iinc 3 1, 3) := by decide +kernel
theorem dX3_howManyAt_42 : decode cX3_howManyAt 42 = .ok (.goto (-38), 3) := by decide +kernel
theorem dX3_howManyAt_45 : decode cX3_howManyAt 45 = .ok (.iload_n 2, 1) := by decide +kernel
theorem dX3_howManyAt_46 : decode cX3_howManyAt 46 = .ok (.ireturn, 1) := by decide +kernel
theorem dX3_oneStringFurther_0 : decode cX3_oneStringFurther 0 = .ok (.iload_n 1, 1) := by decide +kernel
theorem dX3_oneStringFurther_1 : decode cX3_oneStringFurther 1 = .ok (.istore_n 2, 1) := by decide +kernel
theorem dX3_oneStringFurther_2 : decode cX3_oneStringFurther 2 = .ok (.iconst 0, 1) := by decide +kernel
theorem dX3_oneStringFurther_3 : decode cX3_oneStringFurther 3 = .ok (.istore_n 3, 1) := by decide +kernel
theorem dX3_oneStringFurther_4 : decode cX3_oneStringFurther 4 = .ok (.iload_n 3, 1) := by decide +kernel
theorem dX3_oneStringFurther_5 : decode cX3_oneStringFurther 5 = .ok (.aload_n 0, 1) := by decide +kernel
theorem dX3_oneStringFurther_6 : decode cX3_oneStringFurther 6 = .ok (.getfield 33, 3) := by decide +kernel
theorem dX3_oneStringFurther_9 : decode cX3_oneStringFurther 9 = .ok (.if_icmp .ge 44, 3) := by decide +kernel
theorem dX3_oneStringFurther_12 : decode cX3_oneStringFurther 12 = .ok (.iconst 1, 1) := by decide +kernel
theorem dX3_oneStringFurther_13 : decode cX3_oneStringFurther 13 = .ok (.aload_n 0, 1) := by decide +kernel
theorem dX3_oneStringFurther_14 : decode cX3_oneStringFurther 14 = .ok (.getfield 14, 3) := by decide +kernel
theorem dX3_oneStringFurther_17 : decode cX3_oneStringFurther 17 = .ok (.iload_n 3, 1) := by decide +kernel
theorem dX3_oneStringFurther_18 : decode cX3_oneStringFurther 18 = .ok (.invokevirtual 56, 3) := by decide +kernel
theorem dX3_oneStringFurther_21 : decode cX3_oneStringFurther 21 = .ok (.ishl, 1) := by decide +kernel
theorem dX3_oneStringFurther_22 : decode cX3_oneStringFurther 22 = .ok (.iconst 1, 1) := by decide +kernel
theorem dX3_oneStringFurther_23 : decode cX3_oneStringFurther 23 = .ok (.aload_n 0, 1) := by decide +kernel
theorem dX3_oneStringFurther_24 : decode cX3_oneStringFurther 24 = .ok (.getfield 20, 3) := by decide +kernel
theorem dX3_oneStringFurther_27 : decode cX3_oneStringFurther 27 = .ok (.iload_n 3, 1) := by decide +kernel
theorem dX3_oneStringFurther_28 : decode cX3_oneStringFurther 28 = .ok (.invokevirtual 56, 3) := by decide +kernel
theorem dX3_oneStringFurther_31 : decode cX3_oneStringFurther 31 = .ok (.ishl, 1) := by decide +kernel
theorem dX3_oneStringFurther_32 : decode cX3_oneStringFurther 32 = .ok (.ior, 1) := by decide +kernel
theorem dX3_oneStringFurther_33 : decode cX3_oneStringFurther 33 = .ok (.istore 4, 2) := by decide +kernel
theorem dX3_oneStringFurther_35 : decode cX3_oneStringFurther 35 = .ok (.iload_n 1, 1) := by decide +kernel
theorem dX3_oneStringFurther_36 : decode cX3_oneStringFurther 36 = .ok (.iload 4, 2) := by decide +kernel
theorem dX3_oneStringFurther_38 : decode cX3_oneStringFurther 38 = .ok (.iand, 1) := by decide +kernel
theorem dX3_oneStringFurther_39 : decode cX3_oneStringFurther 39 = .ok (.ifCond .eq 8, 3) := by decide +kernel
theorem dX3_oneStringFurther_42 : decode cX3_oneStringFurther 42 = .ok (.iload_n 2, 1) := by decide +kernel
theorem dX3_oneStringFurther_43 : decode cX3_oneStringFurther 43 = .ok (.iload 4, 2) := by decide +kernel
theorem dX3_oneStringFurther_45 : decode cX3_oneStringFurther 45 = .ok (.ior, 1) := by decide +kernel
theorem dX3_oneStringFurther_46 : decode cX3_oneStringFurther 46 = .ok (.istore_n 2, 1) := by decide +kernel
theorem dX3_oneStringFurther_47 : decode cX3_oneStringFurther 47 = .ok (.iinc 3 1, 3) := by decide +kernel
theorem dX3_oneStringFurther_50 : decode cX3_oneStringFurther 50 = .ok (.goto (-46), 3) := by decide +kernel
theorem dX3_oneStringFurther_53 : decode cX3_oneStringFurther 53 = .ok (.iload_n 2, 1) := by decide +kernel
theorem dX3_oneStringFurther_54 : decode cX3_oneStringFurther 54 = .ok (.ireturn, 1) := by decide +kernel
theorem dX4_init_0 : decode cX4_init 0 = .ok (.aload_n 0, 1) := by decide +kernel
theorem dX4_init_1 : decode cX4_init 1 = .ok (.invokespecial 3, 3) := by decide +kernel
theorem dX4_init_4 : decode cX4_init 4 = .ok (.aload_n 0, 1) := by decide +kernel
theorem dX4_init_5 : decode cX4_init 5 = .ok (.new 9, 3) := by decide +kernel
theorem dX4_init_8 : decode cX4_init 8 = .ok (.dup, 1) := by decide +kernel
theorem dX4_init_9 : decode cX4_init 9 = .ok (.bipush 60, 2) := by decide +kernel
theorem dX4_init_11 : decode cX4_init 11 = .ok (.invokespecial 11, 3) := by decide +kernel
theorem dX4_init_14 : decode cX4_init 14 = .ok (.putfield 14, 3) := by decide +kernel
theorem dX4_init_17 : decode cX4_init 17 = .ok (.aload_n 0, 1) := by decide +kernel
theorem dX4_init_18 : decode cX4_init 18 = .ok (.new 9, 3) := by decide +kernel
theorem dX4_init_21 : decode cX4_init 21 = .ok (.dup, 1) := by decide +kernel
theorem dX4_init_22 : decode cX4_init 22 = .ok (.iconst 3, 1) := by decide +kernel
theorem dX4_init_23 : decode cX4_init 23 = .ok (.invokespecial 11, 3) := by decide +kernel
theorem dX4_init_26 : decode cX4_init 26 = .ok (.putfield 20, 3) := by decide +kernel
theorem dX4_init_29 : decode cX4_init 29 = .ok (.return_, 1) := by decide +kernel
theorem dX4_append_0 : decode cX4_append 0 = .ok (.aload_n 0, 1) := by decide +kernel
theorem dX4_append_1 : decode cX4_append 1 = .ok (.getfield 23, 3) := by decide +kernel
theorem dX4_append_4 : decode cX4_append 4 = .ok (.bipush 60, 2) := by decide +kernel
theorem dX4_append_6 : decode cX4_append 6 = .ok (.if_icmp .lt 5, 3) := by decide +kernel
theorem dX4_append_9 : decode cX4_append 9 = .ok (.iconst 0, 1) := by decide +kernel
theorem dX4_append_10 : decode cX4_append 10 = .ok (.ireturn, 1) := by decide +kernel
theorem dX4_append_11 : decode cX4_append 11 = .ok (.aload_n 0, 1) := by decide +kernel
theorem dX4_append_12 : decode cX4_append 12 = .ok (.getfield 14, 3) := by decide +kernel
theorem dX4_append_15 : decode cX4_append 15 = .ok (.aload_n 0, 1) := by decide +kernel
theorem dX4_append_16 : decode cX4_append 16 = .ok (.getfield 23, 3) := by decide +kernel
theorem dX4_append_19 : decode cX4_append 19 = .ok (.iload_n 1, 1) := by decide +kernel
theorem dX4_append_20 : decode cX4_append 20 = .ok (.invokevirtual 27, 3) := by decide +kernel
theorem dX4_append_23 : decode cX4_append 23 = .ok (.aload_n 0, 1) := by decide +kernel
theorem dX4_append_24 : decode cX4_append 24 = .ok (.dup, 1) := by decide +kernel
theorem dX4_append_25 : decode cX4_append 25 = .ok (.getfield 23, 3) := by decide +kernel
theorem dX4_append_28 : decode cX4_append 28 = .ok (.iconst 1, 1) := by decide +kernel
theorem dX4_append_29 : decode cX4_append 29 = .ok (.iadd, 1) := by decide +kernel
theorem dX4_append_30 : decode cX4_append 30 = .ok (.putfield 23, 3) := by decide +kernel
theorem dX4_append_33 : decode cX4_append 33 = .ok (.iconst 1, 1) := by decide +kernel
theorem dX4_append_34 : decode cX4_append 34 = .ok (.ireturn, 1) := by decide +kernel
theorem dX4_current_0 : decode cX4_current 0 = .ok (.aload_n 0, 1) := by decide +kernel
theorem dX4_current_1 : decode cX4_current 1 = .ok (.getfield 31, 3) := by decide +kernel
theorem dX4_current_4 : decode cX4_current 4 = .ok (.aload_n 0, 1) := by decide +kernel
theorem dX4_current_5 : decode cX4_current 5 = .ok (.getfield 23, 3) := by decide +kernel
theorem dX4_current_8 : decode cX4_current 8 = .ok (.if_icmp .ge 17, 3) := by decide +kernel
theorem dX4_current_11 : decode cX4_current 11 = .ok (.aload_n 0, 1) := by decide +kernel
theorem dX4_current_12 : decode cX4_current 12 = .ok (.getfield 14, 3) := by decide +kernel
theorem dX4_current_15 : decode cX4_current 15 = .ok (.aload_n 0, 1) := by decide +kernel
theorem dX4_current_16 : decode cX4_current 16 = .ok (.getfield 31, 3) := by decide +kernel
theorem dX4_current_19 : decode cX4_current 19 = .ok (.invokevirtual 34, 3) := by decide +kernel
theorem dX4_current_22 : decode cX4_current 22 = .ok (.goto 4, 3) := by decide +kernel
theorem dX4_current_25 : decode cX4_current 25 = .ok (.iconst 0, 1) := by decide +kernel
theorem dX4_current_26 : decode cX4_current 26 = .ok (.ireturn, 1) := by decide +kernel
theorem dX4_readOrder_0 : decode cX4_readOrder 0 = .ok (.aload_n 0, 1) := by decide +kernel
theorem dX4_readOrder_1 : decode cX4_readOrder 1 = .ok (.iload_n 1, 1) := by decide +kernel
theorem dX4_readOrder_2 : decode cX4_readOrder 2 = .ok (.putfield 31, 3) := by decide +kernel
theorem dX4_readOrder_5 : decode cX4_readOrder 5 = .ok (.aload_n 0, 1) := by decide +kernel
theorem dX4_readOrder_6 : decode cX4_readOrder 6 = .ok (.aload_n 0, 1) := by decide +kernel
theorem dX4_readOrder_7 : decode cX4_readOrder 7 = .ok (.invokevirtual 38, 3) := by decide +kernel
theorem dX4_readOrder_10 : decode cX4_readOrder 10 = .ok (.putfield 42, 3) := by decide +kernel
theorem dX4_readOrder_13 : decode cX4_readOrder 13 = .ok (.aload_n 0, 1) := by decide +kernel
theorem dX4_readOrder_14 : decode cX4_readOrder 14 = .ok (.getfield 42, 3) := by decide +kernel
theorem dX4_readOrder_17 : decode cX4_readOrder 17 = .ok (.invokestatic 45, 3) := by decide +kernel
theorem dX4_readOrder_20 : decode cX4_readOrder 20 = .ok (.istore_n 2, 1) := by decide +kernel
theorem dX4_readOrder_21 : decode cX4_readOrder 21 = .ok (.iload_n 2, 1) := by decide +kernel
theorem dX4_readOrder_22 : decode cX4_readOrder 22 = .ok (.iconst (-1), 1) := by decide +kernel
theorem dX4_readOrder_23 : decode cX4_readOrder 23 = .ok (.if_icmp .ne 5, 3) := by decide +kernel
theorem dX4_readOrder_26 : decode cX4_readOrder 26 = .ok (.iconst 0, 1) := by decide +kernel
theorem dX4_readOrder_27 : decode cX4_readOrder 27 = .ok (.ireturn, 1) := by decide +kernel
theorem dX4_readOrder_28 : decode cX4_readOrder 28 = .ok (.aload_n 0, 1) := by decide +kernel
theorem dX4_readOrder_29 : decode cX4_readOrder 29 = .ok (.dup, 1) := by decide +kernel
theorem dX4_readOrder_30 : decode cX4_readOrder 30 = .ok (.getfield 31, 3) := by decide +kernel
theorem dX4_readOrder_33 : decode cX4_readOrder 33 = .ok (.iconst 1, 1) := by decide +kernel
theorem dX4_readOrder_34 : decode cX4_readOrder 34 = .ok (.iadd, 1) := by decide +kernel
theorem dX4_readOrder_35 : decode cX4_readOrder 35 = .ok (.putfield 31, 3) := by decide +kernel
theorem dX4_readOrder_38 : decode cX4_readOrder 38 = .ok (.iconst 0, 1) := by decide +kernel
theorem dX4_readOrder_39 : decode cX4_readOrder 39 = .ok (.istore_n 3, 1) := by decide +kernel
theorem dX4_readOrder_40 : decode cX4_readOrder 40 = .ok (.iload_n 3, 1) := by decide +kernel
theorem dX4_readOrder_41 : decode cX4_readOrder 41 = .ok (.iload_n 2, 1) := by decide +kernel
theorem dX4_readOrder_42 : decode cX4_readOrder 42 = .ok (.if_icmp .ge 32, 3) := by decide +kernel
theorem dX4_readOrder_45 : decode cX4_readOrder 45 = .ok (.iload_n 3, 1) := by decide +kernel
theorem dX4_readOrder_46 : decode cX4_readOrder 46 = .ok (.ifCond .le 12, 3) := by decide +kernel
theorem dX4_readOrder_49 : decode cX4_readOrder 49 = .ok (.aload_n 0, 1) := by decide +kernel
theorem dX4_readOrder_50 : decode cX4_readOrder 50 = .ok (.bipush 44, 2) := by decide +kernel
theorem dX4_readOrder_52 : decode cX4_readOrder 52 = .ok (.invokevirtual 48, 3) := by decide +kernel
theorem dX4_readOrder_55 : decode cX4_readOrder 55 = .ok (.ifCond .eq 11, 3) := by decide +kernel
theorem dX4_readOrder_58 : decode cX4_readOrder 58 = .ok (.aload_n 0, 1) := by decide +kernel
theorem dX4_readOrder_59 : decode cX4_readOrder 59 = .ok (.iload_n 3, 1) := by decide +kernel
theorem dX4_readOrder_60 : decode cX4_readOrder 60 = .ok (.invokevirtual 52, 3) := by decide +kernel
theorem dX4_readOrder_63 : decode cX4_readOrder 63 = .ok (.ifCond .ne 5, 3) := by decide +kernel
theorem dX4_readOrder_66 : decode cX4_readOrder 66 = .ok (.iconst 0, 1) := by decide +kernel
theorem dX4_readOrder_67 : decode cX4_readOrder 67 = .ok (.ireturn, 1) := by decide +kernel
theorem dX4_readOrder_68 : decode cX4_readOrder 68 = .ok (.iinc 3 1, 3) := by decide +kernel
theorem dX4_readOrder_71 : decode cX4_readOrder 71 = .ok (.goto (-31), 3) := by decide +kernel
theorem dX4_readOrder_74 : decode cX4_readOrder 74 = .ok (.aload_n 0, 1) := by decide +kernel
theorem dX4_readOrder_75 : decode cX4_readOrder 75 = .ok (.bipush 59, 2) := by decide +kernel
theorem dX4_readOrder_77 : decode cX4_readOrder 77 = .ok (.invokevirtual 48, 3) := by decide +kernel
theorem dX4_readOrder_80 : decode cX4_readOrder 80 = .ok (.ireturn, 1) := by decide +kernel
theorem dX4_numbersBehind_0 : decode cX4_numbersBehind 0 = .ok (.iload_n 0, 1) := by decide +kernel
theorem dX4_numbersBehind_1 : decode cX4_numbersBehind 1 = .ok (.tableswitch 123 97 121 #[117, 123, 119, 123, 123, 123, 123, 123, 123, 123, 119, 123, 123, 119, 123, 115, 123, 123, 123, 123, 117, 121, 123, 123, 119], 115) := by decide +kernel
theorem dX4_numbersBehind_116 : decode cX4_numbersBehind 116 = .ok (.iconst 2, 1) := by decide +kernel
theorem dX4_numbersBehind_117 : decode cX4_numbersBehind 117 = .ok (.ireturn, 1) := by decide +kernel
theorem dX4_numbersBehind_118 : decode cX4_numbersBehind 118 = .ok (.iconst 3, 1) := by decide +kernel
theorem dX4_numbersBehind_119 : decode cX4_numbersBehind 119 = .ok (.ireturn, 1) := by decide +kernel
theorem dX4_numbersBehind_120 : decode cX4_numbersBehind 120 = .ok (.iconst 1, 1) := by decide +kernel
theorem dX4_numbersBehind_121 : decode cX4_numbersBehind 121 = .ok (.ireturn, 1) := by decide +kernel
theorem dX4_numbersBehind_122 : decode cX4_numbersBehind 122 = .ok (.iconst 0, 1) := by decide +kernel
theorem dX4_numbersBehind_123 : decode cX4_numbersBehind 123 = .ok (.ireturn, 1) := by decide +kernel
theorem dX4_numbersBehind_124 : decode cX4_numbersBehind 124 = .ok (.iconst (-1), 1) := by decide +kernel
theorem dX4_numbersBehind_125 : decode cX4_numbersBehind 125 = .ok (.ireturn, 1) := by decide +kernel
theorem dX4_skip_0 : decode cX4_skip 0 = .ok (.aload_n 0, 1) := by decide +kernel
theorem dX4_skip_1 : decode cX4_skip 1 = .ok (.invokevirtual 38, 3) := by decide +kernel
theorem dX4_skip_4 : decode cX4_skip 4 = .ok (.iload_n 1, 1) := by decide +kernel
theorem dX4_skip_5 : decode cX4_skip 5 = .ok (.if_icmp .eq 5, 3) := by decide +kernel
theorem dX4_skip_8 : decode cX4_skip 8 = .ok (.iconst 0, 1) := by decide +kernel
theorem dX4_skip_9 : decode cX4_skip 9 = .ok (.ireturn, 1) := by decide +kernel
theorem dX4_skip_10 : decode cX4_skip 10 = .ok (.aload_n 0, 1) := by decide +kernel
theorem dX4_skip_11 : decode cX4_skip 11 = .ok (.dup, 1) := by decide +kernel
theorem dX4_skip_12 : decode cX4_skip 12 = .ok (.getfield 31, 3) := by decide +kernel
theorem dX4_skip_15 : decode cX4_skip 15 = .ok (.iconst 1, 1) := by decide +kernel
theorem dX4_skip_16 : decode cX4_skip 16 = .ok (.iadd, 1) := by decide +kernel
theorem dX4_skip_17 : decode cX4_skip 17 = .ok (.putfield 31, 3) := by decide +kernel
theorem dX4_skip_20 : decode cX4_skip 20 = .ok (.iconst 1, 1) := by decide +kernel
theorem dX4_skip_21 : decode cX4_skip 21 = .ok (.ireturn, 1) := by decide +kernel
theorem dX4_readNumber_0 : decode cX4_readNumber 0 = .ok (.aload_n 0, 1) := by decide +kernel
theorem dX4_readNumber_1 : decode cX4_readNumber 1 = .ok (.invokevirtual 38, 3) := by decide +kernel
theorem dX4_readNumber_4 : decode cX4_readNumber 4 = .ok (.invokestatic 55, 3) := by decide +kernel
theorem dX4_readNumber_7 : decode cX4_readNumber 7 = .ok (.ifCond .ne 5, 3) := by decide +kernel
theorem dX4_readNumber_10 : decode cX4_readNumber 10 = .ok (.iconst 0, 1) := by decide +kernel
theorem dX4_readNumber_11 : decode cX4_readNumber 11 = .ok (.ireturn, 1) := by decide +kernel
theorem dX4_readNumber_12 : decode cX4_readNumber 12 = .ok (.aload_n 0, 1) := by decide +kernel
theorem dX4_readNumber_13 : decode cX4_readNumber 13 = .ok (.invokevirtual 38, 3) := by decide +kernel
theorem dX4_readNumber_16 : decode cX4_readNumber 16 = .ok (.bipush 48, 2) := by decide +kernel
theorem dX4_readNumber_18 : decode cX4_readNumber 18 = .ok (.isub, 1) := by decide +kernel
theorem dX4_readNumber_19 : decode cX4_readNumber 19 = .ok (.istore_n 2, 1) := by decide +kernel
theorem dX4_readNumber_20 : decode cX4_readNumber 20 = .ok (.aload_n 0, 1) := by decide +kernel
theorem dX4_readNumber_21 : decode cX4_readNumber 21 = .ok (.dup, 1) := by decide +kernel
theorem dX4_readNumber_22 : decode cX4_readNumber 22 = .ok (.getfield 31, 3) := by decide +kernel
theorem dX4_readNumber_25 : decode cX4_readNumber 25 = .ok (.iconst 1, 1) := by decide +kernel
theorem dX4_readNumber_26 : decode cX4_readNumber 26 = .ok (.iadd, 1) := by decide +kernel
theorem dX4_readNumber_27 : decode cX4_readNumber 27 = .ok (.putfield 31, 3) := by decide +kernel
theorem dX4_readNumber_30 : decode cX4_readNumber 30 = .ok (.aload_n 0, 1) := by decide +kernel
theorem dX4_readNumber_31 : decode cX4_readNumber 31 = .ok (.invokevirtual 38, 3) := by decide +kernel
theorem dX4_readNumber_34 : decode cX4_readNumber 34 = .ok (.invokestatic 55, 3) := by decide +kernel
theorem dX4_readNumber_37 : decode cX4_readNumber 37 = .ok (.ifCond .eq 26, 3) := by decide +kernel
theorem dX4_readNumber_40 : decode cX4_readNumber 40 = .ok (.bipush 10, 2) := by decide +kernel
theorem dX4_readNumber_42 : decode cX4_readNumber 42 = .ok (.iload_n 2, 1) := by decide +kernel
theorem dX4_readNumber_43 : decode cX4_readNumber 43 = .ok (.imul, 1) := by decide +kernel
theorem dX4_readNumber_44 : decode cX4_readNumber 44 = .ok (.aload_n 0, 1) := by decide +kernel
theorem dX4_readNumber_45 : decode cX4_readNumber 45 = .ok (.invokevirtual 38, 3) := by decide +kernel
theorem dX4_readNumber_48 : decode cX4_readNumber 48 = .ok (.iadd, 1) := by decide +kernel
theorem dX4_readNumber_49 : decode cX4_readNumber 49 = .ok (.bipush 48, 2) := by decide +kernel
theorem dX4_readNumber_51 : decode cX4_readNumber 51 = .ok (.isub, 1) := by decide +kernel
theorem dX4_readNumber_52 : decode cX4_readNumber 52 = .ok (.istore_n 2, 1) := by decide +kernel
theorem dX4_readNumber_53 : decode cX4_readNumber 53 = .ok (.aload_n 0, 1) := by decide +kernel
theorem dX4_readNumber_54 : decode cX4_readNumber 54 = .ok (.dup, 1) := by decide +kernel
theorem dX4_readNumber_55 : decode cX4_readNumber 55 = .ok (.getfield 31, 3) := by decide +kernel
theorem dX4_readNumber_58 : decode cX4_readNumber 58 = .ok (.iconst 1, 1) := by decide +kernel
theorem dX4_readNumber_59 : decode cX4_readNumber 59 = .ok (.iadd, 1) := by decide +kernel
theorem dX4_readNumber_60 : decode cX4_readNumber 60 = .ok (.putfield 31, 3) := by decide +kernel
theorem dX4_readNumber_63 : decode cX4_readNumber 63 = .ok (.aload_n 0, 1) := by decide +kernel
theorem dX4_readNumber_64 : decode cX4_readNumber 64 = .ok (.getfield 20, 3) := by decide +kernel
theorem dX4_readNumber_67 : decode cX4_readNumber 67 = .ok (.iload_n 1, 1) := by decide +kernel
theorem dX4_readNumber_68 : decode cX4_readNumber 68 = .ok (.iload_n 2, 1) := by decide +kernel
theorem dX4_readNumber_69 : decode cX4_readNumber 69 = .ok (.invokevirtual 27, 3) := by decide +kernel
theorem dX4_readNumber_72 : decode cX4_readNumber 72 = .ok (.iconst 1, 1) := by decide +kernel
theorem dX4_readNumber_73 : decode cX4_readNumber 73 = .ok (.ireturn, 1) := by decide +kernel
theorem dX4_isDigit_0 : decode cX4_isDigit 0 = .ok (.iload_n 0, 1) := by decide +kernel
theorem dX4_isDigit_1 : decode cX4_isDigit 1 = .ok (.bipush 48, 2) := by decide +kernel
theorem dX4_isDigit_3 : decode cX4_isDigit 3 = .ok (.bipush 57, 2) := by decide +kernel
theorem dX4_isDigit_5 : decode cX4_isDigit 5 = .ok (.invokestatic 58, 3) := by decide +kernel
theorem dX4_isDigit_8 : decode cX4_isDigit 8 = .ok (.ireturn, 1) := by decide +kernel
theorem dX5_init_0 : decode cX5_init 0 = .ok (.aload_n 0, 1) := by decide +kernel
theorem dX5_init_1 : decode cX5_init 1 = .ok (.invokespecial 3, 3) := by decide +kernel
theorem dX5_init_4 : decode cX5_init 4 = .ok (.aload_n 0, 1) := by decide +kernel
theorem dX5_init_5 : decode cX5_init 5 = .ok (.new 9, 3) := by decide +kernel
theorem dX5_init_8 : decode cX5_init 8 = .ok (.dup, 1) := by decide +kernel
theorem dX5_init_9 : decode cX5_init 9 = .ok (.bipush 12, 2) := by decide +kernel
theorem dX5_init_11 : decode cX5_init 11 = .ok (.invokespecial 11, 3) := by decide +kernel
theorem dX5_init_14 : decode cX5_init 14 = .ok (.putfield 14, 3) := by decide +kernel
theorem dX5_init_17 : decode cX5_init 17 = .ok (.return_, 1) := by decide +kernel
theorem dX5_collect_0 : decode cX5_collect 0 = .ok (.aload_n 0, 1) := by decide +kernel
theorem dX5_collect_1 : decode cX5_collect 1 = .ok (.iconst 2, 1) := by decide +kernel
theorem dX5_collect_2 : decode cX5_collect 2 = .ok (.aload_n 1, 1) := by decide +kernel
theorem dX5_collect_3 : decode cX5_collect 3 = .ok (.getfield 20, 3) := by decide +kernel
theorem dX5_collect_6 : decode cX5_collect 6 = .ok (.imul, 1) := by decide +kernel
theorem dX5_collect_7 : decode cX5_collect 7 = .ok (.aload_n 1, 1) := by decide +kernel
theorem dX5_collect_8 : decode cX5_collect 8 = .ok (.getfield 26, 3) := by decide +kernel
theorem dX5_collect_11 : decode cX5_collect 11 = .ok (.isub, 1) := by decide +kernel
theorem dX5_collect_12 : decode cX5_collect 12 = .ok (.putfield 29, 3) := by decide +kernel
theorem dX5_collect_15 : decode cX5_collect 15 = .ok (.aload_n 0, 1) := by decide +kernel
theorem dX5_collect_16 : decode cX5_collect 16 = .ok (.iconst 0, 1) := by decide +kernel
theorem dX5_collect_17 : decode cX5_collect 17 = .ok (.putfield 32, 3) := by decide +kernel
theorem dX5_collect_20 : decode cX5_collect 20 = .ok (.iconst 0, 1) := by decide +kernel
theorem dX5_collect_21 : decode cX5_collect 21 = .ok (.istore_n 2, 1) := by decide +kernel
theorem dX5_collect_22 : decode cX5_collect 22 = .ok (.iload_n 2, 1) := by decide +kernel
theorem dX5_collect_23 : decode cX5_collect 23 = .ok (.aload_n 1, 1) := by decide +kernel
theorem dX5_collect_24 : decode cX5_collect 24 = .ok (.getfield 35, 3) := by decide +kernel
theorem dX5_collect_27 : decode cX5_collect 27 = .ok (.if_icmp .ge 69, 3) := by decide +kernel
theorem dX5_collect_30 : decode cX5_collect 30 = .ok (.aload_n 1, 1) := by decide +kernel
theorem dX5_collect_31 : decode cX5_collect 31 = .ok (.iload_n 2, 1) := by decide +kernel
theorem dX5_collect_32 : decode cX5_collect 32 = .ok (.invokevirtual 38, 3) := by decide +kernel
theorem dX5_collect_35 : decode cX5_collect 35 = .ok (.istore_n 3, 1) := by decide +kernel
theorem dX5_collect_36 : decode cX5_collect 36 = .ok (.iload_n 3, 1) := by decide +kernel
theorem dX5_collect_37 : decode cX5_collect 37 = .ok (.ifCond .eq 53, 3) := by decide +kernel
theorem dX5_collect_40 : decode cX5_collect 40 = .ok (.aload_n 1, 1) := by decide +kernel
theorem dX5_collect_41 : decode cX5_collect 41 = .ok (.iload_n 3, 1) := by decide +kernel
theorem dX5_collect_42 : decode cX5_collect 42 = .ok (.aload_n 1, 1) := by decide +kernel
theorem dX5_collect_43 : decode cX5_collect 43 = .ok (.invokevirtual 42, 3) := by decide +kernel
theorem dX5_collect_46 : decode cX5_collect 46 = .ok (.iand, 1) := by decide +kernel
theorem dX5_collect_47 : decode cX5_collect 47 = .ok (.invokevirtual 46, 3) := by decide +kernel
theorem dX5_collect_50 : decode cX5_collect 50 = .ok (.istore 4, 2) := by decide +kernel
theorem dX5_collect_52 : decode cX5_collect 52 = .ok (.aload_n 1, 1) := by decide +kernel
theorem dX5_collect_53 : decode cX5_collect 53 = .ok (.iload_n 3, 1) := by decide +kernel
theorem dX5_collect_54 : decode cX5_collect 54 = .ok (.invokevirtual 46, 3) := by decide +kernel
theorem dX5_collect_57 : decode cX5_collect 57 = .ok (.istore 5, 2) := by decide +kernel
theorem dX5_collect_59 : decode cX5_collect 59 = .ok (.aload_n 0, 1) := by decide +kernel
theorem dX5_collect_60 : decode cX5_collect 60 = .ok (.getfield 14, 3) := by decide +kernel
theorem dX5_collect_63 : decode cX5_collect 63 = .ok (.aload_n 0, 1) := by decide +kernel
theorem dX5_collect_64 : decode cX5_collect 64 = .ok (.getfield 32, 3) := by decide +kernel
theorem dX5_collect_67 : decode cX5_collect 67 = .ok (.iconst 2, 1) := by decide +kernel
theorem dX5_collect_68 : decode cX5_collect 68 = .ok (.iload 5, 2) := by decide +kernel
theorem dX5_collect_70 : decode cX5_collect 70 = .ok (.iload 4, 2) := by decide +kernel
theorem dX5_collect_72 : decode cX5_collect 72 = .ok (.isub, 1) := by decide +kernel
theorem dX5_collect_73 : decode cX5_collect 73 = .ok (.iload 4, 2) := by decide +kernel
theorem dX5_collect_75 : decode cX5_collect 75 = .ok (.isub, 1) := by decide +kernel
theorem dX5_collect_76 : decode cX5_collect 76 = .ok (.imul, 1) := by decide +kernel
theorem dX5_collect_77 : decode cX5_collect 77 = .ok (.invokevirtual 49, 3) := by decide +kernel
theorem dX5_collect_80 : decode cX5_collect 80 = .ok (.aload_n 0, 1) := by decide +kernel
theorem dX5_collect_81 : decode cX5_collect 81 = .ok (.dup, 1) := by decide +kernel
theorem dX5_collect_82 : decode cX5_collect 82 = .ok (.getfield 32, 3) := by decide +kernel
theorem dX5_collect_85 : decode cX5_collect 85 = .ok (.iconst 1, 1) := by decide +kernel
theorem dX5_collect_86 : decode cX5_collect 86 = .ok (.iadd, 1) := by decide +kernel
theorem dX5_collect_87 : decode cX5_collect 87 = .ok (.putfield 32, 3) := by decide +kernel
theorem dX5_collect_90 : decode cX5_collect 90 = .ok (.iinc 2 1, 3) := by decide +kernel
theorem dX5_collect_93 : decode cX5_collect 93 = .ok (.goto (-71), 3) := by decide +kernel
theorem dX5_collect_96 : decode cX5_collect 96 = .ok (.return_, 1) := by decide +kernel
theorem dX5_fewestByTheBest_0 : decode cX5_fewestByTheBest 0 = .ok (.aload_n 0, 1) := by decide +kernel
theorem dX5_fewestByTheBest_1 : decode cX5_fewestByTheBest 1 = .ok (.getfield 29, 3) := by decide +kernel
theorem dX5_fewestByTheBest_4 : decode cX5_fewestByTheBest 4 = .ok (.ifCond .le 5, 3) := by decide +kernel
theorem dX5_fewestByTheBest_7 : decode cX5_fewestByTheBest 7 = .ok (.iconst 0, 1) := by decide +kernel
theorem dX5_fewestByTheBest_8 : decode cX5_fewestByTheBest 8 = .ok (.ireturn, 1) := by decide +kernel
theorem dX5_fewestByTheBest_9 : decode cX5_fewestByTheBest 9 = .ok (.aload_n 0, 1) := by decide +kernel
theorem dX5_fewestByTheBest_10 : decode cX5_fewestByTheBest 10 = .ok (.getfield 29, 3) := by decide +kernel
theorem dX5_fewestByTheBest_13 : decode cX5_fewestByTheBest 13 = .ok (.istore_n 1, 1) := by decide +kernel
theorem dX5_fewestByTheBest_14 : decode cX5_fewestByTheBest 14 = .ok (.iconst 0, 1) := by decide +kernel
theorem dX5_fewestByTheBest_15 : decode cX5_fewestByTheBest 15 = .ok (.istore_n 2, 1) := by decide +kernel
theorem dX5_fewestByTheBest_16 : decode cX5_fewestByTheBest 16 = .ok (.iconst 1, 1) := by decide +kernel
theorem dX5_fewestByTheBest_17 : decode cX5_fewestByTheBest 17 = .ok (.istore_n 3, 1) := by decide +kernel
theorem dX5_fewestByTheBest_18 : decode cX5_fewestByTheBest 18 = .ok (.iload_n 3, 1) := by decide +kernel
theorem dX5_fewestByTheBest_19 : decode cX5_fewestByTheBest 19 = .ok (.aload_n 0, 1) := by decide +kernel
theorem dX5_fewestByTheBest_20 : decode cX5_fewestByTheBest 20 = .ok (.getfield 32, 3) := by decide +kernel
theorem dX5_fewestByTheBest_23 : decode cX5_fewestByTheBest 23 = .ok (.if_icmp .gt 41, 3) := by decide +kernel
theorem dX5_fewestByTheBest_26 : decode cX5_fewestByTheBest 26 = .ok (.aload_n 0, 1) := by decide +kernel
theorem dX5_fewestByTheBest_27 : decode cX5_fewestByTheBest 27 = .ok (.iload_n 2, 1) := by decide +kernel
theorem dX5_fewestByTheBest_28 : decode cX5_fewestByTheBest 28 = .ok (.invokevirtual 53, 3) := by decide +kernel
theorem dX5_fewestByTheBest_31 : decode cX5_fewestByTheBest 31 = .ok (.istore 4, 2) := by decide +kernel
theorem dX5_fewestByTheBest_33 : decode cX5_fewestByTheBest 33 = .ok (.iload_n 2, 1) := by decide +kernel
theorem dX5_fewestByTheBest_34 : decode cX5_fewestByTheBest 34 = .ok (.iconst 1, 1) := by decide +kernel
theorem dX5_fewestByTheBest_35 : decode cX5_fewestByTheBest 35 = .ok (.iload 4, 2) := by decide +kernel
theorem dX5_fewestByTheBest_37 : decode cX5_fewestByTheBest 37 = .ok (.ishl, 1) := by decide +kernel
theorem dX5_fewestByTheBest_38 : decode cX5_fewestByTheBest 38 = .ok (.ior, 1) := by decide +kernel
theorem dX5_fewestByTheBest_39 : decode cX5_fewestByTheBest 39 = .ok (.istore_n 2, 1) := by decide +kernel
theorem dX5_fewestByTheBest_40 : decode cX5_fewestByTheBest 40 = .ok (.iload_n 1, 1) := by decide +kernel
theorem dX5_fewestByTheBest_41 : decode cX5_fewestByTheBest 41 = .ok (.aload_n 0, 1) := by decide +kernel
theorem dX5_fewestByTheBest_42 : decode cX5_fewestByTheBest 42 = .ok (.getfield 14, 3) := by decide +kernel
theorem dX5_fewestByTheBest_45 : decode cX5_fewestByTheBest 45 = .ok (.iload 4, 2) := by decide +kernel
theorem dX5_fewestByTheBest_47 : decode cX5_fewestByTheBest 47 = .ok (.invokevirtual 56, 3) := by decide +kernel
theorem dX5_fewestByTheBest_50 : decode cX5_fewestByTheBest 50 = .ok (.iadd, 1) := by decide +kernel
theorem dX5_fewestByTheBest_51 : decode cX5_fewestByTheBest 51 = .ok (.istore_n 1, 1) := by decide +kernel
theorem dX5_fewestByTheBest_52 : decode cX5_fewestByTheBest 52 = .ok (.iload_n 1, 1) := by decide +kernel
theorem dX5_fewestByTheBest_53 : decode cX5_fewestByTheBest 53 = .ok (.ifCond .le 5, 3) := by decide +kernel
theorem dX5_fewestByTheBest_56 : decode cX5_fewestByTheBest 56 = .ok (.iload_n 3, 1) := by decide +kernel
theorem dX5_fewestByTheBest_57 : decode cX5_fewestByTheBest 57 = .ok (.ireturn, 1) := by decide +kernel
theorem dX5_fewestByTheBest_58 : decode cX5_fewestByTheBest 58 = .ok (.iinc 3 1, 3) := by decide +kernel
theorem dX5_fewestByTheBest_61 : decode cX5_fewestByTheBest 61 = .ok (.goto (-43), 3) := by decide +kernel
theorem dX5_fewestByTheBest_64 : decode cX5_fewestByTheBest 64 = .ok (.iconst (-1), 1) := by decide +kernel
theorem dX5_fewestByTheBest_65 : decode cX5_fewestByTheBest 65 = .ok (.ireturn, 1) := by decide +kernel
theorem dX5_bestBut_0 : decode cX5_bestBut 0 = .ok (.iconst (-1), 1) := by decide +kernel
theorem dX5_bestBut_1 : decode cX5_bestBut 1 = .ok (.istore_n 2, 1) := by decide +kernel
theorem dX5_bestBut_2 : decode cX5_bestBut 2 = .ok (.iconst 0, 1) := by decide +kernel
theorem dX5_bestBut_3 : decode cX5_bestBut 3 = .ok (.istore_n 3, 1) := by decide +kernel
theorem dX5_bestBut_4 : decode cX5_bestBut 4 = .ok (.iload_n 3, 1) := by decide +kernel
theorem dX5_bestBut_5 : decode cX5_bestBut 5 = .ok (.aload_n 0, 1) := by decide +kernel
theorem dX5_bestBut_6 : decode cX5_bestBut 6 = .ok (.getfield 32, 3) := by decide +kernel
theorem dX5_bestBut_9 : decode cX5_bestBut 9 = .ok (.if_icmp .ge 46, 3) := by decide +kernel
theorem dX5_bestBut_12 : decode cX5_bestBut 12 = .ok (.iload_n 1, 1) := by decide +kernel
theorem dX5_bestBut_13 : decode cX5_bestBut 13 = .ok (.iload_n 3, 1) := by decide +kernel
theorem dX5_bestBut_14 : decode cX5_bestBut 14 = .ok (.invokestatic 59, 3) := by decide +kernel
theorem dX5_bestBut_17 : decode cX5_bestBut 17 = .ok (.ifCond .eq 6, 3) := by decide +kernel
theorem dX5_bestBut_20 : decode cX5_bestBut 20 = .ok (.goto 29, 3) := by decide +kernel
theorem dX5_bestBut_23 : decode cX5_bestBut 23 = .ok (.iload_n 2, 1) := by decide +kernel
theorem dX5_bestBut_24 : decode cX5_bestBut 24 = .ok (.iconst (-1), 1) := by decide +kernel
theorem dX5_bestBut_25 : decode cX5_bestBut 25 = .ok (.if_icmp .eq 22, 3) := by decide +kernel
theorem dX5_bestBut_28 : decode cX5_bestBut 28 = .ok (.aload_n 0, 1) := by decide +kernel
theorem dX5_bestBut_29 : decode cX5_bestBut 29 = .ok (.getfield 14, 3) := by decide +kernel
theorem dX5_bestBut_32 : decode cX5_bestBut 32 = .ok (.iload_n 3, 1) := by decide +kernel
theorem dX5_bestBut_33 : decode cX5_bestBut 33 = .ok (.invokevirtual 56, 3) := by decide +kernel
theorem dX5_bestBut_36 : decode cX5_bestBut 36 = .ok (.aload_n 0, 1) := by decide +kernel
theorem dX5_bestBut_37 : decode cX5_bestBut 37 = .ok (.getfield 14, 3) := by decide +kernel
theorem dX5_bestBut_40 : decode cX5_bestBut 40 = .ok (.iload_n 2, 1) := by decide +kernel
theorem dX5_bestBut_41 : decode cX5_bestBut 41 = .ok (.invokevirtual 56, 3) := by decide +kernel
theorem dX5_bestBut_44 : decode cX5_bestBut 44 = .ok (.if_icmp .le 5, 3) := by decide +kernel
theorem dX5_bestBut_47 : decode cX5_bestBut 47 = .ok (.iload_n 3, 1) := by decide +kernel
theorem dX5_bestBut_48 : decode cX5_bestBut 48 = .ok (.istore_n 2, 1) := by decide +kernel
theorem dX5_bestBut_49 : decode cX5_bestBut 49 = .ok (.iinc 3 1, 3) := by decide +kernel
theorem dX5_bestBut_52 : decode cX5_bestBut 52 = .ok (.goto (-48), 3) := by decide +kernel
theorem dX5_bestBut_55 : decode cX5_bestBut 55 = .ok (.iload_n 2, 1) := by decide +kernel
theorem dX5_bestBut_56 : decode cX5_bestBut 56 = .ok (.ireturn, 1) := by decide +kernel
theorem dX5_fewestOfAllSets_0 : decode cX5_fewestOfAllSets 0 = .ok (.aload_n 0, 1) := by decide +kernel
theorem dX5_fewestOfAllSets_1 : decode cX5_fewestOfAllSets 1 = .ok (.getfield 29, 3) := by decide +kernel
theorem dX5_fewestOfAllSets_4 : decode cX5_fewestOfAllSets 4 = .ok (.ifCond .le 5, 3) := by decide +kernel
theorem dX5_fewestOfAllSets_7 : decode cX5_fewestOfAllSets 7 = .ok (.iconst 0, 1) := by decide +kernel
theorem dX5_fewestOfAllSets_8 : decode cX5_fewestOfAllSets 8 = .ok (.ireturn, 1) := by decide +kernel
theorem dX5_fewestOfAllSets_9 : decode cX5_fewestOfAllSets 9 = .ok (.iconst (-1), 1) := by decide +kernel
theorem dX5_fewestOfAllSets_10 : decode cX5_fewestOfAllSets 10 = .ok (.istore_n 1, 1) := by decide +kernel
theorem dX5_fewestOfAllSets_11 : decode cX5_fewestOfAllSets 11 = .ok (.aload_n 0, 1) := by decide +kernel
theorem dX5_fewestOfAllSets_12 : decode cX5_fewestOfAllSets 12 = .ok (.getfield 29, 3) := by decide +kernel
theorem dX5_fewestOfAllSets_15 : decode cX5_fewestOfAllSets 15 = .ok (.istore_n 2, 1) := by decide +kernel
theorem dX5_fewestOfAllSets_16 : decode cX5_fewestOfAllSets 16 = .ok (.iconst 1, 1) := by decide +kernel
theorem dX5_fewestOfAllSets_17 : decode cX5_fewestOfAllSets 17 = .ok (.istore_n 3, 1) := by decide +kernel
theorem dX5_fewestOfAllSets_18 : decode cX5_fewestOfAllSets 18 = .ok (.iload_n 3, 1) := by decide +kernel
theorem dX5_fewestOfAllSets_19 : decode cX5_fewestOfAllSets 19 = .ok (.iconst 1, 1) := by decide +kernel
theorem dX5_fewestOfAllSets_20 : decode cX5_fewestOfAllSets 20 = .ok (.aload_n 0, 1) := by decide +kernel
theorem dX5_fewestOfAllSets_21 : decode cX5_fewestOfAllSets 21 = .ok (.getfield 32, 3) := by decide +kernel
theorem dX5_fewestOfAllSets_24 : decode cX5_fewestOfAllSets 24 = .ok (.ishl, 1) := by decide +kernel
theorem dX5_fewestOfAllSets_25 : decode cX5_fewestOfAllSets 25 = .ok (.if_icmp .ge 41, 3) := by decide +kernel
theorem dX5_fewestOfAllSets_28 : decode cX5_fewestOfAllSets 28 = .ok (.iload_n 2, 1) := by decide +kernel
theorem dX5_fewestOfAllSets_29 : decode cX5_fewestOfAllSets 29 = .ok (.aload_n 0, 1) := by decide +kernel
theorem dX5_fewestOfAllSets_30 : decode cX5_fewestOfAllSets 30 = .ok (.iload_n 3, 1) := by decide +kernel
theorem dX5_fewestOfAllSets_31 : decode cX5_fewestOfAllSets 31 = .ok (.invokevirtual 63, 3) := by decide +kernel
theorem dX5_fewestOfAllSets_34 : decode cX5_fewestOfAllSets 34 = .ok (.iadd, 1) := by decide +kernel
theorem dX5_fewestOfAllSets_35 : decode cX5_fewestOfAllSets 35 = .ok (.istore_n 2, 1) := by decide +kernel
theorem dX5_fewestOfAllSets_36 : decode cX5_fewestOfAllSets 36 = .ok (.iload_n 3, 1) := by decide +kernel
theorem dX5_fewestOfAllSets_37 : decode cX5_fewestOfAllSets 37 = .ok (.invokestatic 66, 3) := by decide +kernel
theorem dX5_fewestOfAllSets_40 : decode cX5_fewestOfAllSets 40 = .ok (.istore 4, 2) := by decide +kernel
theorem dX5_fewestOfAllSets_42 : decode cX5_fewestOfAllSets 42 = .ok (.iload_n 2, 1) := by decide +kernel
theorem dX5_fewestOfAllSets_43 : decode cX5_fewestOfAllSets 43 = .ok (.ifCond .le 17, 3) := by decide +kernel
theorem dX5_fewestOfAllSets_46 : decode cX5_fewestOfAllSets 46 = .ok (.iload_n 1, 1) := by decide +kernel
theorem dX5_fewestOfAllSets_47 : decode cX5_fewestOfAllSets 47 = .ok (.iconst (-1), 1) := by decide +kernel
theorem dX5_fewestOfAllSets_48 : decode cX5_fewestOfAllSets 48 = .ok (.if_icmp .eq 9, 3) := by decide +kernel
theorem dX5_fewestOfAllSets_51 : decode cX5_fewestOfAllSets 51 = .ok (.iload 4, 2) := by decide +kernel
theorem dX5_fewestOfAllSets_53 : decode cX5_fewestOfAllSets 53 = .ok (.iload_n 1, 1) := by decide +kernel
theorem dX5_fewestOfAllSets_54 : decode cX5_fewestOfAllSets 54 = .ok (.if_icmp .ge 6, 3) := by decide +kernel
theorem dX5_fewestOfAllSets_57 : decode cX5_fewestOfAllSets 57 = .ok (.iload 4, 2) := by decide +kernel
theorem dX5_fewestOfAllSets_59 : decode cX5_fewestOfAllSets 59 = .ok (.istore_n 1, 1) := by decide +kernel
theorem dX5_fewestOfAllSets_60 : decode cX5_fewestOfAllSets 60 = .ok (.iinc 3 1, 3) := by decide +kernel
theorem dX5_fewestOfAllSets_63 : decode cX5_fewestOfAllSets 63 = .ok (.goto (-45), 3) := by decide +kernel
theorem dX5_fewestOfAllSets_66 : decode cX5_fewestOfAllSets 66 = .ok (.iload_n 1, 1) := by decide +kernel
theorem dX5_fewestOfAllSets_67 : decode cX5_fewestOfAllSets 67 = .ok (.ireturn, 1) := by decide +kernel
theorem dX5_stepTo_0 : decode cX5_stepTo 0 = .ok (.iconst 0, 1) := by decide +kernel
theorem dX5_stepTo_1 : decode cX5_stepTo 1 = .ok (.istore_n 2, 1) := by decide +kernel
theorem dX5_stepTo_2 : decode cX5_stepTo 2 = .ok (.iconst 0, 1) := by decide +kernel
theorem dX5_stepTo_3 : decode cX5_stepTo 3 = .ok (.istore_n 3, 1) := by decide +kernel
theorem dX5_stepTo_4 : decode cX5_stepTo 4 = .ok (.iload_n 3, 1) := by decide +kernel
theorem dX5_stepTo_5 : decode cX5_stepTo 5 = .ok (.aload_n 0, 1) := by decide +kernel
theorem dX5_stepTo_6 : decode cX5_stepTo 6 = .ok (.getfield 32, 3) := by decide +kernel
theorem dX5_stepTo_9 : decode cX5_stepTo 9 = .ok (.if_icmp .ge 39, 3) := by decide +kernel
theorem dX5_stepTo_12 : decode cX5_stepTo 12 = .ok (.iload_n 1, 1) := by decide +kernel
theorem dX5_stepTo_13 : decode cX5_stepTo 13 = .ok (.iload_n 3, 1) := by decide +kernel
theorem dX5_stepTo_14 : decode cX5_stepTo 14 = .ok (.invokestatic 59, 3) := by decide +kernel
theorem dX5_stepTo_17 : decode cX5_stepTo 17 = .ok (.ifCond .eq 14, 3) := by decide +kernel
theorem dX5_stepTo_20 : decode cX5_stepTo 20 = .ok (.iload_n 2, 1) := by decide +kernel
theorem dX5_stepTo_21 : decode cX5_stepTo 21 = .ok (.aload_n 0, 1) := by decide +kernel
theorem dX5_stepTo_22 : decode cX5_stepTo 22 = .ok (.getfield 14, 3) := by decide +kernel
theorem dX5_stepTo_25 : decode cX5_stepTo 25 = .ok (.iload_n 3, 1) := by decide +kernel
theorem dX5_stepTo_26 : decode cX5_stepTo 26 = .ok (.invokevirtual 56, 3) := by decide +kernel
theorem dX5_stepTo_29 : decode cX5_stepTo 29 = .ok (.iadd, 1) := by decide +kernel
theorem dX5_stepTo_30 : decode cX5_stepTo 30 = .ok (.ireturn, 1) := by decide +kernel
theorem dX5_stepTo_31 : decode cX5_stepTo 31 = .ok (.iload_n 2, 1) := by decide +kernel
theorem dX5_stepTo_32 : decode cX5_stepTo 32 = .ok (.aload_n 0, 1) := by decide +kernel
theorem dX5_stepTo_33 : decode cX5_stepTo 33 = .ok (.getfield 14, 3) := by decide +kernel
theorem dX5_stepTo_36 : decode cX5_stepTo 36 = .ok (.iload_n 3, 1) := by decide +kernel
theorem dX5_stepTo_37 : decode cX5_stepTo 37 = .ok (.invokevirtual 56, 3) := by decide +kernel
theorem dX5_stepTo_40 : decode cX5_stepTo 40 = .ok (.isub, 1) := by decide +kernel
theorem dX5_stepTo_41 : decode cX5_stepTo 41 = .ok (.istore_n 2, 1) := by decide +kernel
theorem dX5_stepTo_42 : decode cX5_stepTo 42 = .ok (.iinc 3 1, 3) := by decide +kernel
theorem dX5_stepTo_45 : decode cX5_stepTo 45 = .ok (.goto (-41), 3) := by decide +kernel
theorem dX5_stepTo_48 : decode cX5_stepTo 48 = .ok (.iload_n 2, 1) := by decide +kernel
theorem dX5_stepTo_49 : decode cX5_stepTo 49 = .ok (.ireturn, 1) := by decide +kernel
theorem dJ6_bitCount_0f7a4_0 : decode cJ6_bitCount_0f7a4 0 = .ok (.iload_n 0, 1) := by decide +kernel
theorem dJ6_bitCount_0f7a4_1 : decode cJ6_bitCount_0f7a4 1 = .ok (.iload_n 0, 1) := by decide +kernel
theorem dJ6_bitCount_0f7a4_2 : decode cJ6_bitCount_0f7a4 2 = .ok (.iconst 1, 1) := by decide +kernel
theorem dJ6_bitCount_0f7a4_3 : decode cJ6_bitCount_0f7a4 3 = .ok (.iushr, 1) := by decide +kernel
theorem dJ6_bitCount_0f7a4_4 : decode cJ6_bitCount_0f7a4 4 = .ok (.ldc_w 265, 3) := by decide +kernel
theorem dJ6_bitCount_0f7a4_7 : decode cJ6_bitCount_0f7a4 7 = .ok (.iand, 1) := by decide +kernel
theorem dJ6_bitCount_0f7a4_8 : decode cJ6_bitCount_0f7a4 8 = .ok (.isub, 1) := by decide +kernel
theorem dJ6_bitCount_0f7a4_9 : decode cJ6_bitCount_0f7a4 9 = .ok (.istore_n 0, 1) := by decide +kernel
theorem dJ6_bitCount_0f7a4_10 : decode cJ6_bitCount_0f7a4 10 = .ok (.iload_n 0, 1) := by decide +kernel
theorem dJ6_bitCount_0f7a4_11 : decode cJ6_bitCount_0f7a4 11 = .ok (.ldc_w 266, 3) := by decide +kernel
theorem dJ6_bitCount_0f7a4_14 : decode cJ6_bitCount_0f7a4 14 = .ok (.iand, 1) := by decide +kernel
theorem dJ6_bitCount_0f7a4_15 : decode cJ6_bitCount_0f7a4 15 = .ok (.iload_n 0, 1) := by decide +kernel
theorem dJ6_bitCount_0f7a4_16 : decode cJ6_bitCount_0f7a4 16 = .ok (.iconst 2, 1) := by decide +kernel
theorem dJ6_bitCount_0f7a4_17 : decode cJ6_bitCount_0f7a4 17 = .ok (.iushr, 1) := by decide +kernel
theorem dJ6_bitCount_0f7a4_18 : decode cJ6_bitCount_0f7a4 18 = .ok (.ldc_w 266, 3) := by decide +kernel
theorem dJ6_bitCount_0f7a4_21 : decode cJ6_bitCount_0f7a4 21 = .ok (.iand, 1) := by decide +kernel
theorem dJ6_bitCount_0f7a4_22 : decode cJ6_bitCount_0f7a4 22 = .ok (.iadd, 1) := by decide +kernel
theorem dJ6_bitCount_0f7a4_23 : decode cJ6_bitCount_0f7a4 23 = .ok (.istore_n 0, 1) := by decide +kernel
theorem dJ6_bitCount_0f7a4_24 : decode cJ6_bitCount_0f7a4 24 = .ok (.iload_n 0, 1) := by decide +kernel
theorem dJ6_bitCount_0f7a4_25 : decode cJ6_bitCount_0f7a4 25 = .ok (.iload_n 0, 1) := by decide +kernel
theorem dJ6_bitCount_0f7a4_26 : decode cJ6_bitCount_0f7a4 26 = .ok (.iconst 4, 1) := by decide +kernel
theorem dJ6_bitCount_0f7a4_27 : decode cJ6_bitCount_0f7a4 27 = .ok (.iushr, 1) := by decide +kernel
theorem dJ6_bitCount_0f7a4_28 : decode cJ6_bitCount_0f7a4 28 = .ok (.iadd, 1) := by decide +kernel
theorem dJ6_bitCount_0f7a4_29 : decode cJ6_bitCount_0f7a4 29 = .ok (.ldc_w 267, 3) := by decide +kernel
theorem dJ6_bitCount_0f7a4_32 : decode cJ6_bitCount_0f7a4 32 = .ok (.iand, 1) := by decide +kernel
theorem dJ6_bitCount_0f7a4_33 : decode cJ6_bitCount_0f7a4 33 = .ok (.istore_n 0, 1) := by decide +kernel
theorem dJ6_bitCount_0f7a4_34 : decode cJ6_bitCount_0f7a4 34 = .ok (.iload_n 0, 1) := by decide +kernel
theorem dJ6_bitCount_0f7a4_35 : decode cJ6_bitCount_0f7a4 35 = .ok (.iload_n 0, 1) := by decide +kernel
theorem dJ6_bitCount_0f7a4_36 : decode cJ6_bitCount_0f7a4 36 = .ok (.bipush 8, 2) := by decide +kernel
theorem dJ6_bitCount_0f7a4_38 : decode cJ6_bitCount_0f7a4 38 = .ok (.iushr, 1) := by decide +kernel
theorem dJ6_bitCount_0f7a4_39 : decode cJ6_bitCount_0f7a4 39 = .ok (.iadd, 1) := by decide +kernel
theorem dJ6_bitCount_0f7a4_40 : decode cJ6_bitCount_0f7a4 40 = .ok (.istore_n 0, 1) := by decide +kernel
theorem dJ6_bitCount_0f7a4_41 : decode cJ6_bitCount_0f7a4 41 = .ok (.iload_n 0, 1) := by decide +kernel
theorem dJ6_bitCount_0f7a4_42 : decode cJ6_bitCount_0f7a4 42 = .ok (.iload_n 0, 1) := by decide +kernel
theorem dJ6_bitCount_0f7a4_43 : decode cJ6_bitCount_0f7a4 43 = .ok (.bipush 16, 2) := by decide +kernel
theorem dJ6_bitCount_0f7a4_45 : decode cJ6_bitCount_0f7a4 45 = .ok (.iushr, 1) := by decide +kernel
theorem dJ6_bitCount_0f7a4_46 : decode cJ6_bitCount_0f7a4 46 = .ok (.iadd, 1) := by decide +kernel
theorem dJ6_bitCount_0f7a4_47 : decode cJ6_bitCount_0f7a4 47 = .ok (.istore_n 0, 1) := by decide +kernel
theorem dJ6_bitCount_0f7a4_48 : decode cJ6_bitCount_0f7a4 48 = .ok (.iload_n 0, 1) := by decide +kernel
theorem dJ6_bitCount_0f7a4_49 : decode cJ6_bitCount_0f7a4 49 = .ok (.bipush 63, 2) := by decide +kernel
theorem dJ6_bitCount_0f7a4_51 : decode cJ6_bitCount_0f7a4 51 = .ok (.iand, 1) := by decide +kernel
theorem dJ6_bitCount_0f7a4_52 : decode cJ6_bitCount_0f7a4 52 = .ok (.ireturn, 1) := by decide +kernel
theorem dJ9_max_7cf53_0 : decode cJ9_max_7cf53 0 = .ok (.iload_n 0, 1) := by decide +kernel
theorem dJ9_max_7cf53_1 : decode cJ9_max_7cf53 1 = .ok (.iload_n 1, 1) := by decide +kernel
theorem dJ9_max_7cf53_2 : decode cJ9_max_7cf53 2 = .ok (.if_icmp .lt 7, 3) := by decide +kernel
theorem dJ9_max_7cf53_5 : decode cJ9_max_7cf53 5 = .ok (.iload_n 0, 1) := by decide +kernel
theorem dJ9_max_7cf53_6 : decode cJ9_max_7cf53 6 = .ok (.goto 4, 3) := by decide +kernel
theorem dJ9_max_7cf53_9 : decode cJ9_max_7cf53 9 = .ok (.iload_n 1, 1) := by decide +kernel
theorem dJ9_max_7cf53_10 : decode cJ9_max_7cf53 10 = .ok (.ireturn, 1) := by decide +kernel
theorem dJ9_min_7cf53_0 : decode cJ9_min_7cf53 0 = .ok (.iload_n 0, 1) := by decide +kernel
theorem dJ9_min_7cf53_1 : decode cJ9_min_7cf53 1 = .ok (.iload_n 1, 1) := by decide +kernel
theorem dJ9_min_7cf53_2 : decode cJ9_min_7cf53 2 = .ok (.if_icmp .gt 7, 3) := by decide +kernel
theorem dJ9_min_7cf53_5 : decode cJ9_min_7cf53 5 = .ok (.iload_n 0, 1) := by decide +kernel
theorem dJ9_min_7cf53_6 : decode cJ9_min_7cf53 6 = .ok (.goto 4, 3) := by decide +kernel
theorem dJ9_min_7cf53_9 : decode cJ9_min_7cf53 9 = .ok (.iload_n 1, 1) := by decide +kernel
theorem dJ9_min_7cf53_10 : decode cJ9_min_7cf53 10 = .ok (.ireturn, 1) := by decide +kernel
theorem dJxf58ca_isNaN_12338_0 : decode cJxf58ca_isNaN_12338 0 = .ok (.fload_n 0, 1) := by decide +kernel
theorem dJxf58ca_isNaN_12338_1 : decode cJxf58ca_isNaN_12338 1 = .ok (.fload_n 0, 1) := by decide +kernel
theorem dJxf58ca_isNaN_12338_2 : decode cJxf58ca_isNaN_12338 2 = .ok (.fcmp .l, 1) := by decide +kernel
theorem dJxf58ca_isNaN_12338_3 : decode cJxf58ca_isNaN_12338 3 = .ok (.ifCond .eq 7, 3) := by decide +kernel
theorem dJxf58ca_isNaN_12338_6 : decode cJxf58ca_isNaN_12338 6 = .ok (.iconst 1, 1) := by decide +kernel
theorem dJxf58ca_isNaN_12338_7 : decode cJxf58ca_isNaN_12338 7 = .ok (.goto 4, 3) := by decide +kernel
theorem dJxf58ca_isNaN_12338_10 : decode cJxf58ca_isNaN_12338 10 = .ok (.iconst 0, 1) := by decide +kernel
theorem dJxf58ca_isNaN_12338_11 : decode cJxf58ca_isNaN_12338 11 = .ok (.ireturn, 1) := by decide +kernel
theorem dJxf58ca_floatToIntBits_5c35a_0 : decode cJxf58ca_floatToIntBits_5c35a 0 = .ok (.fload_n 0, 1) := by decide +kernel
theorem dJxf58ca_floatToIntBits_5c35a_1 : decode cJxf58ca_floatToIntBits_5c35a 1 = .ok (.invokestatic 59, 3) := by decide +kernel
theorem dJxf58ca_floatToIntBits_5c35a_4 : decode cJxf58ca_floatToIntBits_5c35a 4 = .ok (.ifCond .ne 8, 3) := by decide +kernel
theorem dJxf58ca_floatToIntBits_5c35a_7 : decode cJxf58ca_floatToIntBits_5c35a 7 = .ok (.fload_n 0, 1) := by decide +kernel
theorem dJxf58ca_floatToIntBits_5c35a_8 : decode cJxf58ca_floatToIntBits_5c35a 8 = .ok (.invokestatic 74, 3) := by decide +kernel
theorem dJxf58ca_floatToIntBits_5c35a_11 : decode cJxf58ca_floatToIntBits_5c35a 11 = .ok (.ireturn, 1) := by decide +kernel
theorem dJxf58ca_floatToIntBits_5c35a_12 : decode cJxf58ca_floatToIntBits_5c35a 12 = .ok (.ldc 77, 2) := by decide +kernel
theorem dJxf58ca_floatToIntBits_5c35a_14 : decode cJxf58ca_floatToIntBits_5c35a 14 = .ok (.ireturn, 1) := by decide +kernel
end
section
theorem dX1_init_0 : decode cX1_init 0 = .ok (.aload_n 0, 1) := by decide +kernel
theorem dX1_init_1 : decode cX1_init 1 = .ok (.invokespecial 3, 3) := by decide +kernel
theorem dX1_init_4 : decode cX1_init 4 = .ok (.aload_n 0, 1) := by decide +kernel
theorem dX1_init_5 : decode cX1_init 5 = .ok (.new 9, 3) := by decide +kernel
theorem dX1_init_8 : decode cX1_init 8 = .ok (.dup, 1) := by decide +kernel
theorem dX1_init_9 : decode cX1_init 9 = .ok (.bipush 12, 2) := by decide +kernel
theorem dX1_init_11 : decode cX1_init 11 = .ok (.invokespecial 11, 3) := by decide +kernel
theorem dX1_init_14 : decode cX1_init 14 = .ok (.putfield 14, 3) := by decide +kernel
theorem dX1_init_17 : decode cX1_init 17 = .ok (.aload_n 0, 1) := by decide +kernel
theorem dX1_init_18 : decode cX1_init 18 = .ok (.new 9, 3) := by decide +kernel
theorem dX1_init_21 : decode cX1_init 21 = .ok (.dup, 1) := by decide +kernel
theorem dX1_init_22 : decode cX1_init 22 = .ok (.bipush 12, 2) := by decide +kernel
theorem dX1_init_24 : decode cX1_init 24 = .ok (.invokespecial 11, 3) := by decide +kernel
theorem dX1_init_27 : decode cX1_init 27 = .ok (.putfield 20, 3) := by decide +kernel
theorem dX1_init_30 : decode cX1_init 30 = .ok (.aload_n 0, 1) := by decide +kernel
theorem dX1_init_31 : decode cX1_init 31 = .ok (.new 9, 3) := by decide +kernel
theorem dX1_init_34 : decode cX1_init 34 = .ok (.dup, 1) := by decide +kernel
theorem dX1_init_35 : decode cX1_init 35 = .ok (.bipush 12, 2) := by decide +kernel
theorem dX1_init_37 : decode cX1_init 37 = .ok (.invokespecial 11, 3) := by decide +kernel
theorem dX1_init_40 : decode cX1_init 40 = .ok (.putfield 23, 3) := by decide +kernel
theorem dX1_init_43 : decode cX1_init 43 = .ok (.aload_n 0, 1) := by decide +kernel
theorem dX1_init_44 : decode cX1_init 44 = .ok (.new 9, 3) := by decide +kernel
theorem dX1_init_47 : decode cX1_init 47 = .ok (.dup, 1) := by decide +kernel
theorem dX1_init_48 : decode cX1_init 48 = .ok (.bipush 12, 2) := by decide +kernel
theorem dX1_init_50 : decode cX1_init 50 = .ok (.invokespecial 11, 3) := by decide +kernel
theorem dX1_init_53 : decode cX1_init 53 = .ok (.putfield 26, 3) := by decide +kernel
theorem dX1_init_56 : decode cX1_init 56 = .ok (.aload_n 0, 1) := by decide +kernel
theorem dX1_init_57 : decode cX1_init 57 = .ok (.new 9, 3) := by decide +kernel
theorem dX1_init_60 : decode cX1_init 60 = .ok (.dup, 1) := by decide +kernel
theorem dX1_init_61 : decode cX1_init 61 = .ok (.bipush 12, 2) := by decide +kernel
theorem dX1_init_63 : decode cX1_init 63 = .ok (.invokespecial 11, 3) := by decide +kernel
theorem dX1_init_66 : decode cX1_init 66 = .ok (.putfield 29, 3) := by decide +kernel
theorem dX1_init_69 : decode cX1_init 69 = .ok (.aload_n 0, 1) := by decide +kernel
theorem dX1_init_70 : decode cX1_init 70 = .ok (.new 9, 3) := by decide +kernel
theorem dX1_init_73 : decode cX1_init 73 = .ok (.dup, 1) := by decide +kernel
theorem dX1_init_74 : decode cX1_init 74 = .ok (.bipush 12, 2) := by decide +kernel
theorem dX1_init_76 : decode cX1_init 76 = .ok (.invokespecial 11, 3) := by decide +kernel
theorem dX1_init_79 : decode cX1_init 79 = .ok (.putfield 32, 3) := by decide +kernel
theorem dX1_init_82 : decode cX1_init 82 = .ok (.aload_n 0, 1) := by decide +kernel
theorem dX1_init_83 : decode cX1_init 83 = .ok (.new 35, 3) := by decide +kernel
theorem dX1_init_86 : decode cX1_init 86 = .ok (.dup, 1) := by decide +kernel
theorem dX1_init_87 : decode cX1_init 87 = .ok (.invokespecial 37, 3) := by decide +kernel
theorem dX1_init_90 : decode cX1_init 90 = .ok (.putfield 38, 3) := by decide +kernel
theorem dX1_init_93 : decode cX1_init 93 = .ok (.aload_n 0, 1) := by decide +kernel
theorem dX1_init_94 : decode cX1_init 94 = .ok (.new 42, 3) := by decide +kernel
theorem dX1_init_97 : decode cX1_init 97 = .ok (.dup, 1) := by decide +kernel
theorem dX1_init_98 : decode cX1_init 98 = .ok (.invokespecial 44, 3) := by decide +kernel
theorem dX1_init_101 : decode cX1_init 101 = .ok (.putfield 45, 3) := by decide +kernel
theorem dX1_init_104 : decode cX1_init 104 = .ok (.aload_n 0, 1) := by decide +kernel
theorem dX1_init_105 : decode cX1_init 105 = .ok (.iconst 3, 1) := by decide +kernel
theorem dX1_init_106 : decode cX1_init 106 = .ok (.putfield 49, 3) := by decide +kernel
theorem dX1_init_109 : decode cX1_init 109 = .ok (.return_, 1) := by decide +kernel
theorem dX1_copyFrom_0 : decode cX1_copyFrom 0 = .ok (.aload_n 0, 1) := by decide +kernel
theorem dX1_copyFrom_1 : decode cX1_copyFrom 1 = .ok (.getfield 14, 3) := by decide +kernel
theorem dX1_copyFrom_4 : decode cX1_copyFrom 4 = .ok (.aload_n 1, 1) := by decide +kernel
theorem dX1_copyFrom_5 : decode cX1_copyFrom 5 = .ok (.getfield 14, 3) := by decide +kernel
theorem dX1_copyFrom_8 : decode cX1_copyFrom 8 = .ok (.invokevirtual 53, 3) := by decide +kernel
theorem dX1_copyFrom_11 : decode cX1_copyFrom 11 = .ok (.aload_n 0, 1) := by decide +kernel
theorem dX1_copyFrom_12 : decode cX1_copyFrom 12 = .ok (.getfield 20, 3) := by decide +kernel
theorem dX1_copyFrom_15 : decode cX1_copyFrom 15 = .ok (.aload_n 1, 1) := by decide +kernel
theorem dX1_copyFrom_16 : decode cX1_copyFrom 16 = .ok (.getfield 20, 3) := by decide +kernel
theorem dX1_copyFrom_19 : decode cX1_copyFrom 19 = .ok (.invokevirtual 53, 3) := by decide +kernel
theorem dX1_copyFrom_22 : decode cX1_copyFrom 22 = .ok (.aload_n 0, 1) := by decide +kernel
theorem dX1_copyFrom_23 : decode cX1_copyFrom 23 = .ok (.getfield 23, 3) := by decide +kernel
theorem dX1_copyFrom_26 : decode cX1_copyFrom 26 = .ok (.aload_n 1, 1) := by decide +kernel
theorem dX1_copyFrom_27 : decode cX1_copyFrom 27 = .ok (.getfield 23, 3) := by decide +kernel
theorem dX1_copyFrom_30 : decode cX1_copyFrom 30 = .ok (.invokevirtual 53, 3) := by decide +kernel
theorem dX1_copyFrom_33 : decode cX1_copyFrom 33 = .ok (.aload_n 0, 1) := by decide +kernel
theorem dX1_copyFrom_34 : decode cX1_copyFrom 34 = .ok (.getfield 26, 3) := by decide +kernel
theorem dX1_copyFrom_37 : decode cX1_copyFrom 37 = .ok (.aload_n 1, 1) := by decide +kernel
theorem dX1_copyFrom_38 : decode cX1_copyFrom 38 = .ok (.getfield 26, 3) := by decide +kernel
theorem dX1_copyFrom_41 : decode cX1_copyFrom 41 = .ok (.invokevirtual 53, 3) := by decide +kernel
theorem dX1_copyFrom_44 : decode cX1_copyFrom 44 = .ok (.aload_n 0, 1) := by decide +kernel
theorem dX1_copyFrom_45 : decode cX1_copyFrom 45 = .ok (.getfield 29, 3) := by decide +kernel
theorem dX1_copyFrom_48 : decode cX1_copyFrom 48 = .ok (.aload_n 1, 1) := by decide +kernel
theorem dX1_copyFrom_49 : decode cX1_copyFrom 49 = .ok (.getfield 29, 3) := by decide +kernel
theorem dX1_copyFrom_52 : decode cX1_copyFrom 52 = .ok (.invokevirtual 53, 3) := by decide +kernel
theorem dX1_copyFrom_55 : decode cX1_copyFrom 55 = .ok (.aload_n 0, 1) := by decide +kernel
theorem dX1_copyFrom_56 : decode cX1_copyFrom 56 = .ok (.getfield 32, 3) := by decide +kernel
theorem dX1_copyFrom_59 : decode cX1_copyFrom 59 = .ok (.aload_n 1, 1) := by decide +kernel
theorem dX1_copyFrom_60 : decode cX1_copyFrom 60 = .ok (.getfield 32, 3) := by decide +kernel
theorem dX1_copyFrom_63 : decode cX1_copyFrom 63 = .ok (.invokevirtual 53, 3) := by decide +kernel
theorem dX1_copyFrom_66 : decode cX1_copyFrom 66 = .ok (.aload_n 0, 1) := by decide +kernel
theorem dX1_copyFrom_67 : decode cX1_copyFrom 67 = .ok (.getfield 38, 3) := by decide +kernel
theorem dX1_copyFrom_70 : decode cX1_copyFrom 70 = .ok (.aload_n 1, 1) := by decide +kernel
theorem dX1_copyFrom_71 : decode cX1_copyFrom 71 = .ok (.getfield 38, 3) := by decide +kernel
theorem dX1_copyFrom_74 : decode cX1_copyFrom 74 = .ok (.invokevirtual 57, 3) := by decide +kernel
theorem dX1_copyFrom_77 : decode cX1_copyFrom 77 = .ok (.aload_n 0, 1) := by decide +kernel
theorem dX1_copyFrom_78 : decode cX1_copyFrom 78 = .ok (.getfield 45, 3) := by decide +kernel
theorem dX1_copyFrom_81 : decode cX1_copyFrom 81 = .ok (.aload_n 1, 1) := by decide +kernel
theorem dX1_copyFrom_82 : decode cX1_copyFrom 82 = .ok (.getfield 45, 3) := by decide +kernel
theorem dX1_copyFrom_85 : decode cX1_copyFrom 85 = .ok (.invokevirtual 60, 3) := by decide +kernel
theorem dX1_copyFrom_88 : decode cX1_copyFrom 88 = .ok (.aload_n 0, 1) := by decide +kernel
theorem dX1_copyFrom_89 : decode cX1_copyFrom 89 = .ok (.aload_n 1, 1) := by decide +kernel
theorem dX1_copyFrom_90 : decode cX1_copyFrom 90 = .ok (.getfield 63, 3) := by decide +kernel
theorem dX1_copyFrom_93 : decode cX1_copyFrom 93 = .ok (.putfield 63, 3) := by decide +kernel
theorem dX1_copyFrom_96 : decode cX1_copyFrom 96 = .ok (.aload_n 0, 1) := by decide +kernel
theorem dX1_copyFrom_97 : decode cX1_copyFrom 97 = .ok (.aload_n 1, 1) := by decide +kernel
theorem dX1_copyFrom_98 : decode cX1_copyFrom 98 = .ok (.getfield 66, 3) := by decide +kernel
theorem dX1_copyFrom_101 : decode cX1_copyFrom 101 = .ok (.putfield 66, 3) := by decide +kernel
theorem dX1_copyFrom_104 : decode cX1_copyFrom 104 = .ok (.aload_n 0, 1) := by decide +kernel
theorem dX1_copyFrom_105 : decode cX1_copyFrom 105 = .ok (.aload_n 1, 1) := by decide +kernel
theorem dX1_copyFrom_106 : decode cX1_copyFrom 106 = .ok (.getfield 49, 3) := by decide +kernel
theorem dX1_copyFrom_109 : decode cX1_copyFrom 109 = .ok (.putfield 49, 3) := by decide +kernel
theorem dX1_copyFrom_112 : decode cX1_copyFrom 112 = .ok (.aload_n 0, 1) := by decide +kernel
theorem dX1_copyFrom_113 : decode cX1_copyFrom 113 = .ok (.aload_n 1, 1) := by decide +kernel
theorem dX1_copyFrom_114 : decode cX1_copyFrom 114 = .ok (.getfield 69, 3) := by decide +kernel
theorem dX1_copyFrom_117 : decode cX1_copyFrom 117 = .ok (.putfield 69, 3) := by decide +kernel
theorem dX1_copyFrom_120 : decode cX1_copyFrom 120 = .ok (.aload_n 0, 1) := by decide +kernel
theorem dX1_copyFrom_121 : decode cX1_copyFrom 121 = .ok (.aload_n 1, 1) := by decide +kernel
theorem dX1_copyFrom_122 : decode cX1_copyFrom 122 = .ok (.getfield 72, 3) := by decide +kernel
theorem dX1_copyFrom_125 : decode cX1_copyFrom 125 = .ok (.putfield 72, 3) := by decide +kernel
theorem dX1_copyFrom_128 : decode cX1_copyFrom 128 = .ok (.return_, 1) := by decide +kernel
theorem dX1_addPuppet_0 : decode cX1_addPuppet 0 = .ok (.iload_n 1, 1) := by decide +kernel
theorem dX1_addPuppet_1 : decode cX1_addPuppet 1 = .ok (.iconst 1, 1) := by decide +kernel
theorem dX1_addPuppet_2 : decode cX1_addPuppet 2 = .ok (.bipush 9, 2) := by decide +kernel
theorem dX1_addPuppet_4 : decode cX1_addPuppet 4 = .ok (.invokestatic 75, 3) := by decide +kernel
theorem dX1_addPuppet_7 : decode cX1_addPuppet 7 = .ok (.ifCond .eq 12, 3) := by decide +kernel
theorem dX1_addPuppet_10 : decode cX1_addPuppet 10 = .ok (.iload_n 2, 1) := by decide +kernel
theorem dX1_addPuppet_11 : decode cX1_addPuppet 11 = .ok (.iconst 0, 1) := by decide +kernel
theorem dX1_addPuppet_12 : decode cX1_addPuppet 12 = .ok (.iconst 1, 1) := by decide +kernel
theorem dX1_addPuppet_13 : decode cX1_addPuppet 13 = .ok (.invokestatic 75, 3) := by decide +kernel
theorem dX1_addPuppet_16 : decode cX1_addPuppet 16 = .ok (.ifCond .ne 6, 3) := by decide +kernel
theorem dX1_addPuppet_19 : decode cX1_addPuppet 19 = .ok (.ldc 79, 2) := by decide +kernel
theorem dX1_addPuppet_21 : decode cX1_addPuppet 21 = .ok (.ireturn, 1) := by decide +kernel
theorem dX1_addPuppet_22 : decode cX1_addPuppet 22 = .ok (.aload_n 0, 1) := by decide +kernel
theorem dX1_addPuppet_23 : decode cX1_addPuppet 23 = .ok (.getfield 63, 3) := by decide +kernel
theorem dX1_addPuppet_26 : decode cX1_addPuppet 26 = .ok (.bipush 12, 2) := by decide +kernel
theorem dX1_addPuppet_28 : decode cX1_addPuppet 28 = .ok (.if_icmp .lt 6, 3) := by decide +kernel
theorem dX1_addPuppet_31 : decode cX1_addPuppet 31 = .ok (.ldc 80, 2) := by decide +kernel
theorem dX1_addPuppet_33 : decode cX1_addPuppet 33 = .ok (.ireturn, 1) := by decide +kernel
theorem dX1_addPuppet_34 : decode cX1_addPuppet 34 = .ok (.aload_n 0, 1) := by decide +kernel
theorem dX1_addPuppet_35 : decode cX1_addPuppet 35 = .ok (.getfield 14, 3) := by decide +kernel
theorem dX1_addPuppet_38 : decode cX1_addPuppet 38 = .ok (.aload_n 0, 1) := by decide +kernel
theorem dX1_addPuppet_39 : decode cX1_addPuppet 39 = .ok (.getfield 63, 3) := by decide +kernel
theorem dX1_addPuppet_42 : decode cX1_addPuppet 42 = .ok (.iload_n 1, 1) := by decide +kernel
theorem dX1_addPuppet_43 : decode cX1_addPuppet 43 = .ok (.invokevirtual 81, 3) := by decide +kernel
theorem dX1_addPuppet_46 : decode cX1_addPuppet 46 = .ok (.aload_n 0, 1) := by decide +kernel
theorem dX1_addPuppet_47 : decode cX1_addPuppet 47 = .ok (.getfield 20, 3) := by decide +kernel
theorem dX1_addPuppet_50 : decode cX1_addPuppet 50 = .ok (.aload_n 0, 1) := by decide +kernel
theorem dX1_addPuppet_51 : decode cX1_addPuppet 51 = .ok (.getfield 63, 3) := by decide +kernel
theorem dX1_addPuppet_54 : decode cX1_addPuppet 54 = .ok (.iload_n 2, 1) := by decide +kernel
theorem dX1_addPuppet_55 : decode cX1_addPuppet 55 = .ok (.invokevirtual 81, 3) := by decide +kernel
theorem dX1_addPuppet_58 : decode cX1_addPuppet 58 = .ok (.aload_n 0, 1) := by decide +kernel
theorem dX1_addPuppet_59 : decode cX1_addPuppet 59 = .ok (.getfield 23, 3) := by decide +kernel
theorem dX1_addPuppet_62 : decode cX1_addPuppet 62 = .ok (.aload_n 0, 1) := by decide +kernel
theorem dX1_addPuppet_63 : decode cX1_addPuppet 63 = .ok (.getfield 63, 3) := by decide +kernel
theorem dX1_addPuppet_66 : decode cX1_addPuppet 66 = .ok (.iconst (-1), 1) := by decide +kernel
theorem dX1_addPuppet_67 : decode cX1_addPuppet 67 = .ok (.invokevirtual 81, 3) := by decide +kernel
theorem dX1_addPuppet_70 : decode cX1_addPuppet 70 = .ok (.aload_n 0, 1) := by decide +kernel
theorem dX1_addPuppet_71 : decode cX1_addPuppet 71 = .ok (.dup, 1) := by decide +kernel
theorem dX1_addPuppet_72 : decode cX1_addPuppet 72 = .ok (.getfield 63, 3) := by decide +kernel
theorem dX1_addPuppet_75 : decode cX1_addPuppet 75 = .ok (.iconst 1, 1) := by decide +kernel
theorem dX1_addPuppet_76 : decode cX1_addPuppet 76 = .ok (.iadd, 1) := by decide +kernel
theorem dX1_addPuppet_77 : decode cX1_addPuppet 77 = .ok (.putfield 63, 3) := by decide +kernel
theorem dX1_addPuppet_80 : decode cX1_addPuppet 80 = .ok (.aload_n 0, 1) := by decide +kernel
theorem dX1_addPuppet_81 : decode cX1_addPuppet 81 = .ok (.invokevirtual 85, 3) := by decide +kernel
theorem dX1_addPuppet_84 : decode cX1_addPuppet 84 = .ok (.aload_n 0, 1) := by decide +kernel
theorem dX1_addPuppet_85 : decode cX1_addPuppet 85 = .ok (.invokevirtual 88, 3) := by decide +kernel
theorem dX1_addPuppet_88 : decode cX1_addPuppet 88 = .ok (.aload_n 0, 1) := by decide +kernel
theorem dX1_addPuppet_89 : decode cX1_addPuppet 89 = .ok (.getfield 63, 3) := by decide +kernel
theorem dX1_addPuppet_92 : decode cX1_addPuppet 92 = .ok (.iconst 1, 1) := by decide +kernel
theorem dX1_addPuppet_93 : decode cX1_addPuppet 93 = .ok (.isub, 1) := by decide +kernel
theorem dX1_addPuppet_94 : decode cX1_addPuppet 94 = .ok (.ireturn, 1) := by decide +kernel
theorem dX1_addString_0 : decode cX1_addString 0 = .ok (.aload_n 0, 1) := by decide +kernel
theorem dX1_addString_1 : decode cX1_addString 1 = .ok (.iload_n 1, 1) := by decide +kernel
theorem dX1_addString_2 : decode cX1_addString 2 = .ok (.iload_n 2, 1) := by decide +kernel
theorem dX1_addString_3 : decode cX1_addString 3 = .ok (.invokevirtual 91, 3) := by decide +kernel
theorem dX1_addString_6 : decode cX1_addString 6 = .ok (.ifCond .eq 13, 3) := by decide +kernel
theorem dX1_addString_9 : decode cX1_addString 9 = .ok (.iload 4, 2) := by decide +kernel
theorem dX1_addString_11 : decode cX1_addString 11 = .ok (.iconst 0, 1) := by decide +kernel
theorem dX1_addString_12 : decode cX1_addString 12 = .ok (.iconst 5, 1) := by decide +kernel
theorem dX1_addString_13 : decode cX1_addString 13 = .ok (.invokestatic 75, 3) := by decide +kernel
theorem dX1_addString_16 : decode cX1_addString 16 = .ok (.ifCond .ne 6, 3) := by decide +kernel
theorem dX1_addString_19 : decode cX1_addString 19 = .ok (.ldc 79, 2) := by decide +kernel
theorem dX1_addString_21 : decode cX1_addString 21 = .ok (.ireturn, 1) := by decide +kernel
theorem dX1_addString_22 : decode cX1_addString 22 = .ok (.aload_n 0, 1) := by decide +kernel
theorem dX1_addString_23 : decode cX1_addString 23 = .ok (.iload_n 1, 1) := by decide +kernel
theorem dX1_addString_24 : decode cX1_addString 24 = .ok (.iload_n 2, 1) := by decide +kernel
theorem dX1_addString_25 : decode cX1_addString 25 = .ok (.iload_n 3, 1) := by decide +kernel
theorem dX1_addString_26 : decode cX1_addString 26 = .ok (.invokevirtual 95, 3) := by decide +kernel
theorem dX1_addString_29 : decode cX1_addString 29 = .ok (.ifCond .eq 6, 3) := by decide +kernel
theorem dX1_addString_32 : decode cX1_addString 32 = .ok (.ldc 99, 2) := by decide +kernel
theorem dX1_addString_34 : decode cX1_addString 34 = .ok (.ireturn, 1) := by decide +kernel
theorem dX1_addString_35 : decode cX1_addString 35 = .ok (.aload_n 0, 1) := by decide +kernel
theorem dX1_addString_36 : decode cX1_addString 36 = .ok (.getfield 38, 3) := by decide +kernel
theorem dX1_addString_39 : decode cX1_addString 39 = .ok (.getfield 100, 3) := by decide +kernel
theorem dX1_addString_42 : decode cX1_addString 42 = .ok (.bipush 20, 2) := by decide +kernel
theorem dX1_addString_44 : decode cX1_addString 44 = .ok (.if_icmp .lt 6, 3) := by decide +kernel
theorem dX1_addString_47 : decode cX1_addString 47 = .ok (.ldc 80, 2) := by decide +kernel
theorem dX1_addString_49 : decode cX1_addString 49 = .ok (.ireturn, 1) := by decide +kernel
theorem dX1_addString_50 : decode cX1_addString 50 = .ok (.aload_n 0, 1) := by decide +kernel
theorem dX1_addString_51 : decode cX1_addString 51 = .ok (.getfield 38, 3) := by decide +kernel
theorem dX1_addString_54 : decode cX1_addString 54 = .ok (.iload_n 1, 1) := by decide +kernel
theorem dX1_addString_55 : decode cX1_addString 55 = .ok (.iload_n 2, 1) := by decide +kernel
theorem dX1_addString_56 : decode cX1_addString 56 = .ok (.iload_n 3, 1) := by decide +kernel
theorem dX1_addString_57 : decode cX1_addString 57 = .ok (.iload 4, 2) := by decide +kernel
theorem dX1_addString_59 : decode cX1_addString 59 = .ok (.invokevirtual 103, 3) := by decide +kernel
theorem dX1_addString_62 : decode cX1_addString 62 = .ok (.istore 5, 2) := by decide +kernel
theorem dX1_addString_64 : decode cX1_addString 64 = .ok (.aload_n 0, 1) := by decide +kernel
theorem dX1_addString_65 : decode cX1_addString 65 = .ok (.invokevirtual 85, 3) := by decide +kernel
theorem dX1_addString_68 : decode cX1_addString 68 = .ok (.aload_n 0, 1) := by decide +kernel
theorem dX1_addString_69 : decode cX1_addString 69 = .ok (.invokevirtual 88, 3) := by decide +kernel
theorem dX1_addString_72 : decode cX1_addString 72 = .ok (.iload 5, 2) := by decide +kernel
theorem dX1_addString_74 : decode cX1_addString 74 = .ok (.ireturn, 1) := by decide +kernel
theorem dX1_cutString_0 : decode cX1_cutString 0 = .ok (.aload_n 0, 1) := by decide +kernel
theorem dX1_cutString_1 : decode cX1_cutString 1 = .ok (.getfield 38, 3) := by decide +kernel
theorem dX1_cutString_4 : decode cX1_cutString 4 = .ok (.iload_n 1, 1) := by decide +kernel
theorem dX1_cutString_5 : decode cX1_cutString 5 = .ok (.invokevirtual 107, 3) := by decide +kernel
theorem dX1_cutString_8 : decode cX1_cutString 8 = .ok (.ifCond .ne 6, 3) := by decide +kernel
theorem dX1_cutString_11 : decode cX1_cutString 11 = .ok (.ldc 79, 2) := by decide +kernel
theorem dX1_cutString_13 : decode cX1_cutString 13 = .ok (.ireturn, 1) := by decide +kernel
theorem dX1_cutString_14 : decode cX1_cutString 14 = .ok (.aload_n 0, 1) := by decide +kernel
theorem dX1_cutString_15 : decode cX1_cutString 15 = .ok (.getfield 38, 3) := by decide +kernel
theorem dX1_cutString_18 : decode cX1_cutString 18 = .ok (.iload_n 1, 1) := by decide +kernel
theorem dX1_cutString_19 : decode cX1_cutString 19 = .ok (.invokevirtual 111, 3) := by decide +kernel
theorem dX1_cutString_22 : decode cX1_cutString 22 = .ok (.aload_n 0, 1) := by decide +kernel
theorem dX1_cutString_23 : decode cX1_cutString 23 = .ok (.invokevirtual 85, 3) := by decide +kernel
theorem dX1_cutString_26 : decode cX1_cutString 26 = .ok (.aload_n 0, 1) := by decide +kernel
theorem dX1_cutString_27 : decode cX1_cutString 27 = .ok (.invokevirtual 88, 3) := by decide +kernel
theorem dX1_cutString_30 : decode cX1_cutString 30 = .ok (.aload_n 0, 1) := by decide +kernel
theorem dX1_cutString_31 : decode cX1_cutString 31 = .ok (.getfield 38, 3) := by decide +kernel
theorem dX1_cutString_34 : decode cX1_cutString 34 = .ok (.getfield 100, 3) := by decide +kernel
theorem dX1_cutString_37 : decode cX1_cutString 37 = .ok (.ireturn, 1) := by decide +kernel
theorem dX1_cutStringsOf_0 : decode cX1_cutStringsOf 0 = .ok (.iload_n 1, 1) := by decide +kernel
theorem dX1_cutStringsOf_1 : decode cX1_cutStringsOf 1 = .ok (.iconst 0, 1) := by decide +kernel
theorem dX1_cutStringsOf_2 : decode cX1_cutStringsOf 2 = .ok (.iconst 5, 1) := by decide +kernel
theorem dX1_cutStringsOf_3 : decode cX1_cutStringsOf 3 = .ok (.invokestatic 75, 3) := by decide +kernel
theorem dX1_cutStringsOf_6 : decode cX1_cutStringsOf 6 = .ok (.ifCond .ne 6, 3) := by decide +kernel
theorem dX1_cutStringsOf_9 : decode cX1_cutStringsOf 9 = .ok (.ldc 79, 2) := by decide +kernel
theorem dX1_cutStringsOf_11 : decode cX1_cutStringsOf 11 = .ok (.ireturn, 1) := by decide +kernel
theorem dX1_cutStringsOf_12 : decode cX1_cutStringsOf 12 = .ok (.aload_n 0, 1) := by decide +kernel
theorem dX1_cutStringsOf_13 : decode cX1_cutStringsOf 13 = .ok (.getfield 38, 3) := by decide +kernel
theorem dX1_cutStringsOf_16 : decode cX1_cutStringsOf 16 = .ok (.iload_n 1, 1) := by decide +kernel
theorem dX1_cutStringsOf_17 : decode cX1_cutStringsOf 17 = .ok (.invokevirtual 114, 3) := by decide +kernel
theorem dX1_cutStringsOf_20 : decode cX1_cutStringsOf 20 = .ok (.istore_n 2, 1) := by decide +kernel
theorem dX1_cutStringsOf_21 : decode cX1_cutStringsOf 21 = .ok (.iload_n 2, 1) := by decide +kernel
theorem dX1_cutStringsOf_22 : decode cX1_cutStringsOf 22 = .ok (.ifCond .ne 6, 3) := by decide +kernel
theorem dX1_cutStringsOf_25 : decode cX1_cutStringsOf 25 = .ok (.ldc 99, 2) := by decide +kernel
theorem dX1_cutStringsOf_27 : decode cX1_cutStringsOf 27 = .ok (.ireturn, 1) := by decide +kernel
theorem dX1_cutStringsOf_28 : decode cX1_cutStringsOf 28 = .ok (.aload_n 0, 1) := by decide +kernel
theorem dX1_cutStringsOf_29 : decode cX1_cutStringsOf 29 = .ok (.invokevirtual 85, 3) := by decide +kernel
theorem dX1_cutStringsOf_32 : decode cX1_cutStringsOf 32 = .ok (.aload_n 0, 1) := by decide +kernel
theorem dX1_cutStringsOf_33 : decode cX1_cutStringsOf 33 = .ok (.invokevirtual 88, 3) := by decide +kernel
theorem dX1_cutStringsOf_36 : decode cX1_cutStringsOf 36 = .ok (.iload_n 2, 1) := by decide +kernel
theorem dX1_cutStringsOf_37 : decode cX1_cutStringsOf 37 = .ok (.ireturn, 1) := by decide +kernel
theorem dX1_pullTo_0 : decode cX1_pullTo 0 = .ok (.aload_n 0, 1) := by decide +kernel
theorem dX1_pullTo_1 : decode cX1_pullTo 1 = .ok (.iload_n 1, 1) := by decide +kernel
theorem dX1_pullTo_2 : decode cX1_pullTo 2 = .ok (.invokevirtual 118, 3) := by decide +kernel
theorem dX1_pullTo_5 : decode cX1_pullTo 5 = .ok (.ifCond .eq 12, 3) := by decide +kernel
theorem dX1_pullTo_8 : decode cX1_pullTo 8 = .ok (.iload_n 2, 1) := by decide +kernel
theorem dX1_pullTo_9 : decode cX1_pullTo 9 = .ok (.iconst 0, 1) := by decide +kernel
theorem dX1_pullTo_10 : decode cX1_pullTo 10 = .ok (.iconst 1, 1) := by decide +kernel
theorem dX1_pullTo_11 : decode cX1_pullTo 11 = .ok (.invokestatic 75, 3) := by decide +kernel
theorem dX1_pullTo_14 : decode cX1_pullTo 14 = .ok (.ifCond .ne 6, 3) := by decide +kernel
theorem dX1_pullTo_17 : decode cX1_pullTo 17 = .ok (.ldc 79, 2) := by decide +kernel
theorem dX1_pullTo_19 : decode cX1_pullTo 19 = .ok (.ireturn, 1) := by decide +kernel
theorem dX1_pullTo_20 : decode cX1_pullTo 20 = .ok (.aload_n 0, 1) := by decide +kernel
theorem dX1_pullTo_21 : decode cX1_pullTo 21 = .ok (.iload_n 1, 1) := by decide +kernel
theorem dX1_pullTo_22 : decode cX1_pullTo 22 = .ok (.iload_n 2, 1) := by decide +kernel
theorem dX1_pullTo_23 : decode cX1_pullTo 23 = .ok (.invokevirtual 121, 3) := by decide +kernel
theorem dX1_pullTo_26 : decode cX1_pullTo 26 = .ok (.ifCond .eq 6, 3) := by decide +kernel
theorem dX1_pullTo_29 : decode cX1_pullTo 29 = .ok (.ldc 99, 2) := by decide +kernel
theorem dX1_pullTo_31 : decode cX1_pullTo 31 = .ok (.ireturn, 1) := by decide +kernel
theorem dX1_pullTo_32 : decode cX1_pullTo 32 = .ok (.aload_n 0, 1) := by decide +kernel
theorem dX1_pullTo_33 : decode cX1_pullTo 33 = .ok (.getfield 23, 3) := by decide +kernel
theorem dX1_pullTo_36 : decode cX1_pullTo 36 = .ok (.iload_n 1, 1) := by decide +kernel
theorem dX1_pullTo_37 : decode cX1_pullTo 37 = .ok (.iload_n 2, 1) := by decide +kernel
theorem dX1_pullTo_38 : decode cX1_pullTo 38 = .ok (.invokevirtual 81, 3) := by decide +kernel
theorem dX1_pullTo_41 : decode cX1_pullTo 41 = .ok (.aload_n 0, 1) := by decide +kernel
theorem dX1_pullTo_42 : decode cX1_pullTo 42 = .ok (.invokevirtual 88, 3) := by decide +kernel
theorem dX1_pullTo_45 : decode cX1_pullTo 45 = .ok (.aload_n 0, 1) := by decide +kernel
theorem dX1_pullTo_46 : decode cX1_pullTo 46 = .ok (.getfield 72, 3) := by decide +kernel
theorem dX1_pullTo_49 : decode cX1_pullTo 49 = .ok (.ireturn, 1) := by decide +kernel
theorem dX1_letGo_0 : decode cX1_letGo 0 = .ok (.aload_n 0, 1) := by decide +kernel
theorem dX1_letGo_1 : decode cX1_letGo 1 = .ok (.iload_n 1, 1) := by decide +kernel
theorem dX1_letGo_2 : decode cX1_letGo 2 = .ok (.invokevirtual 118, 3) := by decide +kernel
theorem dX1_letGo_5 : decode cX1_letGo 5 = .ok (.ifCond .ne 6, 3) := by decide +kernel
theorem dX1_letGo_8 : decode cX1_letGo 8 = .ok (.ldc 79, 2) := by decide +kernel
theorem dX1_letGo_10 : decode cX1_letGo 10 = .ok (.ireturn, 1) := by decide +kernel
theorem dX1_letGo_11 : decode cX1_letGo 11 = .ok (.aload_n 0, 1) := by decide +kernel
theorem dX1_letGo_12 : decode cX1_letGo 12 = .ok (.iload_n 1, 1) := by decide +kernel
theorem dX1_letGo_13 : decode cX1_letGo 13 = .ok (.invokevirtual 125, 3) := by decide +kernel
theorem dX1_letGo_16 : decode cX1_letGo 16 = .ok (.ifCond .ne 6, 3) := by decide +kernel
theorem dX1_letGo_19 : decode cX1_letGo 19 = .ok (.ldc 99, 2) := by decide +kernel
theorem dX1_letGo_21 : decode cX1_letGo 21 = .ok (.ireturn, 1) := by decide +kernel
theorem dX1_letGo_22 : decode cX1_letGo 22 = .ok (.aload_n 0, 1) := by decide +kernel
theorem dX1_letGo_23 : decode cX1_letGo 23 = .ok (.getfield 23, 3) := by decide +kernel
theorem dX1_letGo_26 : decode cX1_letGo 26 = .ok (.iload_n 1, 1) := by decide +kernel
theorem dX1_letGo_27 : decode cX1_letGo 27 = .ok (.invokevirtual 128, 3) := by decide +kernel
theorem dX1_letGo_30 : decode cX1_letGo 30 = .ok (.istore_n 2, 1) := by decide +kernel
theorem dX1_letGo_31 : decode cX1_letGo 31 = .ok (.aload_n 0, 1) := by decide +kernel
theorem dX1_letGo_32 : decode cX1_letGo 32 = .ok (.getfield 23, 3) := by decide +kernel
theorem dX1_letGo_35 : decode cX1_letGo 35 = .ok (.iload_n 1, 1) := by decide +kernel
theorem dX1_letGo_36 : decode cX1_letGo 36 = .ok (.iconst (-1), 1) := by decide +kernel
theorem dX1_letGo_37 : decode cX1_letGo 37 = .ok (.invokevirtual 81, 3) := by decide +kernel
theorem dX1_letGo_40 : decode cX1_letGo 40 = .ok (.aload_n 0, 1) := by decide +kernel
theorem dX1_letGo_41 : decode cX1_letGo 41 = .ok (.invokevirtual 88, 3) := by decide +kernel
theorem dX1_letGo_44 : decode cX1_letGo 44 = .ok (.iload_n 2, 1) := by decide +kernel
theorem dX1_letGo_45 : decode cX1_letGo 45 = .ok (.ireturn, 1) := by decide +kernel
theorem dX1_holdSession_0 : decode cX1_holdSession 0 = .ok (.aload_n 0, 1) := by decide +kernel
theorem dX1_holdSession_1 : decode cX1_holdSession 1 = .ok (.getfield 63, 3) := by decide +kernel
theorem dX1_holdSession_4 : decode cX1_holdSession 4 = .ok (.ifCond .gt 6, 3) := by decide +kernel
theorem dX1_holdSession_7 : decode cX1_holdSession 7 = .ok (.ldc 99, 2) := by decide +kernel
theorem dX1_holdSession_9 : decode cX1_holdSession 9 = .ok (.ireturn, 1) := by decide +kernel
theorem dX1_holdSession_10 : decode cX1_holdSession 10 = .ok (.aload_n 0, 1) := by decide +kernel
theorem dX1_holdSession_11 : decode cX1_holdSession 11 = .ok (.getfield 45, 3) := by decide +kernel
theorem dX1_holdSession_14 : decode cX1_holdSession 14 = .ok (.getfield 131, 3) := by decide +kernel
theorem dX1_holdSession_17 : decode cX1_holdSession 17 = .ok (.sipush 999, 3) := by decide +kernel
theorem dX1_holdSession_20 : decode cX1_holdSession 20 = .ok (.if_icmp .lt 6, 3) := by decide +kernel
theorem dX1_holdSession_23 : decode cX1_holdSession 23 = .ok (.ldc 80, 2) := by decide +kernel
theorem dX1_holdSession_25 : decode cX1_holdSession 25 = .ok (.ireturn, 1) := by decide +kernel
theorem dX1_holdSession_26 : decode cX1_holdSession 26 = .ok (.aload_n 0, 1) := by decide +kernel
theorem dX1_holdSession_27 : decode cX1_holdSession 27 = .ok (.invokevirtual 134, 3) := by decide +kernel
theorem dX1_holdSession_30 : decode cX1_holdSession 30 = .ok (.istore_n 1, 1) := by decide +kernel
theorem dX1_holdSession_31 : decode cX1_holdSession 31 = .ok (.aload_n 0, 1) := by decide +kernel
theorem dX1_holdSession_32 : decode cX1_holdSession 32 = .ok (.getfield 45, 3) := by decide +kernel
theorem dX1_holdSession_35 : decode cX1_holdSession 35 = .ok (.aload_n 0, 1) := by decide +kernel
theorem dX1_holdSession_36 : decode cX1_holdSession 36 = .ok (.getfield 72, 3) := by decide +kernel
theorem dX1_holdSession_39 : decode cX1_holdSession 39 = .ok (.aload_n 0, 1) := by decide +kernel
theorem dX1_holdSession_40 : decode cX1_holdSession 40 = .ok (.getfield 69, 3) := by decide +kernel
theorem dX1_holdSession_43 : decode cX1_holdSession 43 = .ok (.aload_n 0, 1) := by decide +kernel
theorem dX1_holdSession_44 : decode cX1_holdSession 44 = .ok (.getfield 72, 3) := by decide +kernel
theorem dX1_holdSession_47 : decode cX1_holdSession 47 = .ok (.isub, 1) := by decide +kernel
theorem dX1_holdSession_48 : decode cX1_holdSession 48 = .ok (.iload_n 1, 1) := by decide +kernel
theorem dX1_holdSession_49 : decode cX1_holdSession 49 = .ok (.aload_n 0, 1) := by decide +kernel
theorem dX1_holdSession_50 : decode cX1_holdSession 50 = .ok (.getfield 66, 3) := by decide +kernel
theorem dX1_holdSession_53 : decode cX1_holdSession 53 = .ok (.invokevirtual 138, 3) := by decide +kernel
theorem dX1_holdSession_56 : decode cX1_holdSession 56 = .ok (.aload_n 0, 1) := by decide +kernel
theorem dX1_holdSession_57 : decode cX1_holdSession 57 = .ok (.aload_n 0, 1) := by decide +kernel
theorem dX1_holdSession_58 : decode cX1_holdSession 58 = .ok (.getfield 66, 3) := by decide +kernel
theorem dX1_holdSession_61 : decode cX1_holdSession 61 = .ok (.iconst 1, 1) := by decide +kernel
theorem dX1_holdSession_62 : decode cX1_holdSession 62 = .ok (.iadd, 1) := by decide +kernel
theorem dX1_holdSession_63 : decode cX1_holdSession 63 = .ok (.aload_n 0, 1) := by decide +kernel
theorem dX1_holdSession_64 : decode cX1_holdSession 64 = .ok (.getfield 63, 3) := by decide +kernel
theorem dX1_holdSession_67 : decode cX1_holdSession 67 = .ok (.if_icmp .ge 12, 3) := by decide +kernel
theorem dX1_holdSession_70 : decode cX1_holdSession 70 = .ok (.aload_n 0, 1) := by decide +kernel
theorem dX1_holdSession_71 : decode cX1_holdSession 71 = .ok (.getfield 66, 3) := by decide +kernel
theorem dX1_holdSession_74 : decode cX1_holdSession 74 = .ok (.iconst 1, 1) := by decide +kernel
theorem dX1_holdSession_75 : decode cX1_holdSession 75 = .ok (.iadd, 1) := by decide +kernel
theorem dX1_holdSession_76 : decode cX1_holdSession 76 = .ok (.goto 4, 3) := by decide +kernel
theorem dX1_holdSession_79 : decode cX1_holdSession 79 = .ok (.iconst 0, 1) := by decide +kernel
theorem dX1_holdSession_80 : decode cX1_holdSession 80 = .ok (.putfield 66, 3) := by decide +kernel
theorem dX1_holdSession_83 : decode cX1_holdSession 83 = .ok (.iconst 0, 1) := by decide +kernel
theorem dX1_holdSession_84 : decode cX1_holdSession 84 = .ok (.istore_n 2, 1) := by decide +kernel
theorem dX1_holdSession_85 : decode cX1_holdSession 85 = .ok (.iload_n 2, 1) := by decide +kernel
theorem dX1_holdSession_86 : decode cX1_holdSession 86 = .ok (.aload_n 0, 1) := by decide +kernel
theorem dX1_holdSession_87 : decode cX1_holdSession 87 = .ok (.getfield 63, 3) := by decide +kernel
theorem dX1_holdSession_90 : decode cX1_holdSession 90 = .ok (.if_icmp .ge 18, 3) := by decide +kernel
theorem dX1_holdSession_93 : decode cX1_holdSession 93 = .ok (.aload_n 0, 1) := by decide +kernel
theorem dX1_holdSession_94 : decode cX1_holdSession 94 = .ok (.getfield 23, 3) := by decide +kernel
theorem dX1_holdSession_97 : decode cX1_holdSession 97 = .ok (.iload_n 2, 1) := by decide +kernel
theorem dX1_holdSession_98 : decode cX1_holdSession 98 = .ok (.iconst (-1), 1) := by decide +kernel
theorem dX1_holdSession_99 : decode cX1_holdSession 99 = .ok (.invokevirtual 81, 3) := by decide +kernel
theorem dX1_holdSession_102 : decode cX1_holdSession 102 = .ok (.iinc 2 1, 3) := by decide +kernel
theorem dX1_holdSession_105 : decode cX1_holdSession 105 = .ok (.goto (-20), 3) := by decide +kernel
theorem dX1_holdSession_108 : decode cX1_holdSession 108 = .ok (.aload_n 0, 1) := by decide +kernel
theorem dX1_holdSession_109 : decode cX1_holdSession 109 = .ok (.invokevirtual 88, 3) := by decide +kernel
theorem dX1_holdSession_112 : decode cX1_holdSession 112 = .ok (.iload_n 1, 1) := by decide +kernel
theorem dX1_holdSession_113 : decode cX1_holdSession 113 = .ok (.ireturn, 1) := by decide +kernel
theorem dX1_bindPulls_0 : decode cX1_bindPulls 0 = .ok (.iload_n 1, 1) := by decide +kernel
theorem dX1_bindPulls_1 : decode cX1_bindPulls 1 = .ok (.iconst 0, 1) := by decide +kernel
theorem dX1_bindPulls_2 : decode cX1_bindPulls 2 = .ok (.bipush 12, 2) := by decide +kernel
theorem dX1_bindPulls_4 : decode cX1_bindPulls 4 = .ok (.invokestatic 75, 3) := by decide +kernel
theorem dX1_bindPulls_7 : decode cX1_bindPulls 7 = .ok (.ifCond .ne 6, 3) := by decide +kernel
theorem dX1_bindPulls_10 : decode cX1_bindPulls 10 = .ok (.ldc 79, 2) := by decide +kernel
theorem dX1_bindPulls_12 : decode cX1_bindPulls 12 = .ok (.ireturn, 1) := by decide +kernel
theorem dX1_bindPulls_13 : decode cX1_bindPulls 13 = .ok (.aload_n 0, 1) := by decide +kernel
theorem dX1_bindPulls_14 : decode cX1_bindPulls 14 = .ok (.getfield 49, 3) := by decide +kernel
theorem dX1_bindPulls_17 : decode cX1_bindPulls 17 = .ok (.istore_n 2, 1) := by decide +kernel
theorem dX1_bindPulls_18 : decode cX1_bindPulls 18 = .ok (.aload_n 0, 1) := by decide +kernel
theorem dX1_bindPulls_19 : decode cX1_bindPulls 19 = .ok (.iload_n 1, 1) := by decide +kernel
theorem dX1_bindPulls_20 : decode cX1_bindPulls 20 = .ok (.putfield 49, 3) := by decide +kernel
theorem dX1_bindPulls_23 : decode cX1_bindPulls 23 = .ok (.iload_n 2, 1) := by decide +kernel
theorem dX1_bindPulls_24 : decode cX1_bindPulls 24 = .ok (.ireturn, 1) := by decide +kernel
theorem dX1_tellGroups_0 : decode cX1_tellGroups 0 = .ok (.iconst 0, 1) := by decide +kernel
theorem dX1_tellGroups_1 : decode cX1_tellGroups 1 = .ok (.istore_n 1, 1) := by decide +kernel
theorem dX1_tellGroups_2 : decode cX1_tellGroups 2 = .ok (.iload_n 1, 1) := by decide +kernel
theorem dX1_tellGroups_3 : decode cX1_tellGroups 3 = .ok (.aload_n 0, 1) := by decide +kernel
theorem dX1_tellGroups_4 : decode cX1_tellGroups 4 = .ok (.getfield 63, 3) := by decide +kernel
theorem dX1_tellGroups_7 : decode cX1_tellGroups 7 = .ok (.if_icmp .ge 27, 3) := by decide +kernel
theorem dX1_tellGroups_10 : decode cX1_tellGroups 10 = .ok (.aload_n 0, 1) := by decide +kernel
theorem dX1_tellGroups_11 : decode cX1_tellGroups 11 = .ok (.getfield 26, 3) := by decide +kernel
theorem dX1_tellGroups_14 : decode cX1_tellGroups 14 = .ok (.iload_n 1, 1) := by decide +kernel
theorem dX1_tellGroups_15 : decode cX1_tellGroups 15 = .ok (.iload_n 1, 1) := by decide +kernel
theorem dX1_tellGroups_16 : decode cX1_tellGroups 16 = .ok (.invokevirtual 81, 3) := by decide +kernel
theorem dX1_tellGroups_19 : decode cX1_tellGroups 19 = .ok (.aload_n 0, 1) := by decide +kernel
theorem dX1_tellGroups_20 : decode cX1_tellGroups 20 = .ok (.getfield 29, 3) := by decide +kernel
theorem dX1_tellGroups_23 : decode cX1_tellGroups 23 = .ok (.iload_n 1, 1) := by decide +kernel
theorem dX1_tellGroups_24 : decode cX1_tellGroups 24 = .ok (.iconst 0, 1) := by decide +kernel
theorem dX1_tellGroups_25 : decode cX1_tellGroups 25 = .ok (.invokevirtual 81, 3) := by decide +kernel
theorem dX1_tellGroups_28 : decode cX1_tellGroups 28 = .ok (.iinc 1 1, 3) := by decide +kernel
theorem dX1_tellGroups_31 : decode cX1_tellGroups 31 = .ok (.goto (-29), 3) := by decide +kernel
theorem dX1_tellGroups_34 : decode cX1_tellGroups 34 = .ok (.iconst 0, 1) := by decide +kernel
theorem dX1_tellGroups_35 : decode cX1_tellGroups 35 = .ok (.istore_n 1, 1) := by decide +kernel
theorem dX1_tellGroups_36 : decode cX1_tellGroups 36 = .ok (.iload_n 1, 1) := by decide +kernel
theorem dX1_tellGroups_37 : decode cX1_tellGroups 37 = .ok (.aload_n 0, 1) := by decide +kernel
theorem dX1_tellGroups_38 : decode cX1_tellGroups 38 = .ok (.getfield 38, 3) := by decide +kernel
theorem dX1_tellGroups_41 : decode cX1_tellGroups 41 = .ok (.getfield 100, 3) := by decide +kernel
theorem dX1_tellGroups_44 : decode cX1_tellGroups 44 = .ok (.if_icmp .ge 14, 3) := by decide +kernel
theorem dX1_tellGroups_47 : decode cX1_tellGroups 47 = .ok (.aload_n 0, 1) := by decide +kernel
theorem dX1_tellGroups_48 : decode cX1_tellGroups 48 = .ok (.iload_n 1, 1) := by decide +kernel
theorem dX1_tellGroups_49 : decode cX1_tellGroups 49 = .ok (.invokevirtual 142, 3) := by decide +kernel
theorem dX1_tellGroups_52 : decode cX1_tellGroups 52 = .ok (.iinc 1 1, 3) := by decide +kernel
theorem dX1_tellGroups_55 : decode cX1_tellGroups 55 = .ok (.goto (-19), 3) := by decide +kernel
theorem dX1_tellGroups_58 : decode cX1_tellGroups 58 = .ok (.return_, 1) := by decide +kernel
theorem dX1_joinBy_0 : decode cX1_joinBy 0 = .ok (.aload_n 0, 1) := by decide +kernel
theorem dX1_joinBy_1 : decode cX1_joinBy 1 = .ok (.getfield 38, 3) := by decide +kernel
theorem dX1_joinBy_4 : decode cX1_joinBy 4 = .ok (.getfield 145, 3) := by decide +kernel
theorem dX1_joinBy_7 : decode cX1_joinBy 7 = .ok (.iload_n 1, 1) := by decide +kernel
theorem dX1_joinBy_8 : decode cX1_joinBy 8 = .ok (.invokevirtual 128, 3) := by decide +kernel
theorem dX1_joinBy_11 : decode cX1_joinBy 11 = .ok (.istore_n 2, 1) := by decide +kernel
theorem dX1_joinBy_12 : decode cX1_joinBy 12 = .ok (.aload_n 0, 1) := by decide +kernel
theorem dX1_joinBy_13 : decode cX1_joinBy 13 = .ok (.getfield 38, 3) := by decide +kernel
theorem dX1_joinBy_16 : decode cX1_joinBy 16 = .ok (.getfield 148, 3) := by decide +kernel
theorem dX1_joinBy_19 : decode cX1_joinBy 19 = .ok (.iload_n 1, 1) := by decide +kernel
theorem dX1_joinBy_20 : decode cX1_joinBy 20 = .ok (.invokevirtual 128, 3) := by decide +kernel
theorem dX1_joinBy_23 : decode cX1_joinBy 23 = .ok (.istore_n 3, 1) := by decide +kernel
theorem dX1_joinBy_24 : decode cX1_joinBy 24 = .ok (.aload_n 0, 1) := by decide +kernel
theorem dX1_joinBy_25 : decode cX1_joinBy 25 = .ok (.getfield 26, 3) := by decide +kernel
theorem dX1_joinBy_28 : decode cX1_joinBy 28 = .ok (.iload_n 2, 1) := by decide +kernel
theorem dX1_joinBy_29 : decode cX1_joinBy 29 = .ok (.invokevirtual 128, 3) := by decide +kernel
theorem dX1_joinBy_32 : decode cX1_joinBy 32 = .ok (.aload_n 0, 1) := by decide +kernel
theorem dX1_joinBy_33 : decode cX1_joinBy 33 = .ok (.getfield 26, 3) := by decide +kernel
theorem dX1_joinBy_36 : decode cX1_joinBy 36 = .ok (.iload_n 3, 1) := by decide +kernel
theorem dX1_joinBy_37 : decode cX1_joinBy 37 = .ok (.invokevirtual 128, 3) := by decide +kernel
theorem dX1_joinBy_40 : decode cX1_joinBy 40 = .ok (.invokestatic 151, 3) := by decide +kernel
theorem dX1_joinBy_43 : decode cX1_joinBy 43 = .ok (.istore 4, 2) := by decide +kernel
theorem dX1_joinBy_45 : decode cX1_joinBy 45 = .ok (.aload_n 0, 1) := by decide +kernel
theorem dX1_joinBy_46 : decode cX1_joinBy 46 = .ok (.getfield 26, 3) := by decide +kernel
theorem dX1_joinBy_49 : decode cX1_joinBy 49 = .ok (.iload_n 2, 1) := by decide +kernel
theorem dX1_joinBy_50 : decode cX1_joinBy 50 = .ok (.invokevirtual 128, 3) := by decide +kernel
theorem dX1_joinBy_53 : decode cX1_joinBy 53 = .ok (.aload_n 0, 1) := by decide +kernel
theorem dX1_joinBy_54 : decode cX1_joinBy 54 = .ok (.getfield 26, 3) := by decide +kernel
theorem dX1_joinBy_57 : decode cX1_joinBy 57 = .ok (.iload_n 3, 1) := by decide +kernel
theorem dX1_joinBy_58 : decode cX1_joinBy 58 = .ok (.invokevirtual 128, 3) := by decide +kernel
theorem dX1_joinBy_61 : decode cX1_joinBy 61 = .ok (.invokestatic 156, 3) := by decide +kernel
theorem dX1_joinBy_64 : decode cX1_joinBy 64 = .ok (.istore 5, 2) := by decide +kernel
theorem dX1_joinBy_66 : decode cX1_joinBy 66 = .ok (.iload 4, 2) := by decide +kernel
theorem dX1_joinBy_68 : decode cX1_joinBy 68 = .ok (.iload 5, 2) := by decide +kernel
theorem dX1_joinBy_70 : decode cX1_joinBy 70 = .ok (.if_icmp .ne 4, 3) := by decide +kernel
theorem dX1_joinBy_73 : decode cX1_joinBy 73 = .ok (.return_, 1) := by decide +kernel
theorem dX1_joinBy_74 : decode cX1_joinBy 74 = .ok (.aload_n 0, 1) := by decide +kernel
theorem dX1_joinBy_75 : decode cX1_joinBy 75 = .ok (.getfield 29, 3) := by decide +kernel
theorem dX1_joinBy_78 : decode cX1_joinBy 78 = .ok (.iload_n 2, 1) := by decide +kernel
theorem dX1_joinBy_79 : decode cX1_joinBy 79 = .ok (.invokevirtual 128, 3) := by decide +kernel
theorem dX1_joinBy_82 : decode cX1_joinBy 82 = .ok (.aload_n 0, 1) := by decide +kernel
theorem dX1_joinBy_83 : decode cX1_joinBy 83 = .ok (.getfield 29, 3) := by decide +kernel
theorem dX1_joinBy_86 : decode cX1_joinBy 86 = .ok (.iload_n 3, 1) := by decide +kernel
theorem dX1_joinBy_87 : decode cX1_joinBy 87 = .ok (.invokevirtual 128, 3) := by decide +kernel
theorem dX1_joinBy_90 : decode cX1_joinBy 90 = .ok (.ixor, 1) := by decide +kernel
theorem dX1_joinBy_91 : decode cX1_joinBy 91 = .ok (.aload_n 0, 1) := by decide +kernel
theorem dX1_joinBy_92 : decode cX1_joinBy 92 = .ok (.getfield 38, 3) := by decide +kernel
theorem dX1_joinBy_95 : decode cX1_joinBy 95 = .ok (.getfield 159, 3) := by decide +kernel
theorem dX1_joinBy_98 : decode cX1_joinBy 98 = .ok (.iload_n 1, 1) := by decide +kernel
theorem dX1_joinBy_99 : decode cX1_joinBy 99 = .ok (.invokevirtual 128, 3) := by decide +kernel
theorem dX1_joinBy_102 : decode cX1_joinBy 102 = .ok (.ixor, 1) := by decide +kernel
theorem dX1_joinBy_103 : decode cX1_joinBy 103 = .ok (.istore 6, 2) := by decide +kernel
theorem dX1_joinBy_105 : decode cX1_joinBy 105 = .ok (.iconst 0, 1) := by decide +kernel
theorem dX1_joinBy_106 : decode cX1_joinBy 106 = .ok (.istore 7, 2) := by decide +kernel
theorem dX1_joinBy_108 : decode cX1_joinBy 108 = .ok (.iload 7, 2) := by decide +kernel
theorem dX1_joinBy_110 : decode cX1_joinBy 110 = .ok (.aload_n 0, 1) := by decide +kernel
theorem dX1_joinBy_111 : decode cX1_joinBy 111 = .ok (.getfield 63, 3) := by decide +kernel
theorem dX1_joinBy_114 : decode cX1_joinBy 114 = .ok (.if_icmp .ge 55, 3) := by decide +kernel
theorem dX1_joinBy_117 : decode cX1_joinBy 117 = .ok (.aload_n 0, 1) := by decide +kernel
theorem dX1_joinBy_118 : decode cX1_joinBy 118 = .ok (.getfield 26, 3) := by decide +kernel
theorem dX1_joinBy_121 : decode cX1_joinBy 121 = .ok (.iload 7, 2) := by decide +kernel
theorem dX1_joinBy_123 : decode cX1_joinBy 123 = .ok (.invokevirtual 128, 3) := by decide +kernel
theorem dX1_joinBy_126 : decode cX1_joinBy 126 = .ok (.iload 5, 2) := by decide +kernel
theorem dX1_joinBy_128 : decode cX1_joinBy 128 = .ok (.if_icmp .ne 35, 3) := by decide +kernel
theorem dX1_joinBy_131 : decode cX1_joinBy 131 = .ok (.aload_n 0, 1) := by decide +kernel
theorem dX1_joinBy_132 : decode cX1_joinBy 132 = .ok (.getfield 26, 3) := by decide +kernel
theorem dX1_joinBy_135 : decode cX1_joinBy 135 = .ok (.iload 7, 2) := by decide +kernel
theorem dX1_joinBy_137 : decode cX1_joinBy 137 = .ok (.iload 4, 2) := by decide +kernel
theorem dX1_joinBy_139 : decode cX1_joinBy 139 = .ok (.invokevirtual 81, 3) := by decide +kernel
theorem dX1_joinBy_142 : decode cX1_joinBy 142 = .ok (.aload_n 0, 1) := by decide +kernel
theorem dX1_joinBy_143 : decode cX1_joinBy 143 = .ok (.getfield 29, 3) := by decide +kernel
theorem dX1_joinBy_146 : decode cX1_joinBy 146 = .ok (.iload 7, 2) := by decide +kernel
theorem dX1_joinBy_148 : decode cX1_joinBy 148 = .ok (.aload_n 0, 1) := by decide +kernel
theorem dX1_joinBy_149 : decode cX1_joinBy 149 = .ok (.getfield 29, 3) := by decide +kernel
theorem dX1_joinBy_152 : decode cX1_joinBy 152 = .ok (.iload 7, 2) := by decide +kernel
theorem dX1_joinBy_154 : decode cX1_joinBy 154 = .ok (.invokevirtual 128, 3) := by decide +kernel
theorem dX1_joinBy_157 : decode cX1_joinBy 157 = .ok (.iload 6, 2) := by decide +kernel
theorem dX1_joinBy_159 : decode cX1_joinBy 159 = .ok (.ixor, 1) := by decide +kernel
theorem dX1_joinBy_160 : decode cX1_joinBy 160 = .ok (.invokevirtual 81, 3) := by decide +kernel
theorem dX1_joinBy_163 : decode cX1_joinBy 163 = .ok (.iinc 7 1, 3) := by decide +kernel
theorem dX1_joinBy_166 : decode cX1_joinBy 166 = .ok (.goto (-58), 3) := by decide +kernel
theorem dX1_joinBy_169 : decode cX1_joinBy 169 = .ok (.return_, 1) := by decide +kernel
theorem dX1_tellVotes_0 : decode cX1_tellVotes 0 = .ok (.aload_n 0, 1) := by decide +kernel
theorem dX1_tellVotes_1 : decode cX1_tellVotes 1 = .ok (.iconst 0, 1) := by decide +kernel
theorem dX1_tellVotes_2 : decode cX1_tellVotes 2 = .ok (.putfield 69, 3) := by decide +kernel
theorem dX1_tellVotes_5 : decode cX1_tellVotes 5 = .ok (.aload_n 0, 1) := by decide +kernel
theorem dX1_tellVotes_6 : decode cX1_tellVotes 6 = .ok (.iconst 0, 1) := by decide +kernel
theorem dX1_tellVotes_7 : decode cX1_tellVotes 7 = .ok (.putfield 72, 3) := by decide +kernel
theorem dX1_tellVotes_10 : decode cX1_tellVotes 10 = .ok (.iconst 0, 1) := by decide +kernel
theorem dX1_tellVotes_11 : decode cX1_tellVotes 11 = .ok (.istore_n 1, 1) := by decide +kernel
theorem dX1_tellVotes_12 : decode cX1_tellVotes 12 = .ok (.iload_n 1, 1) := by decide +kernel
theorem dX1_tellVotes_13 : decode cX1_tellVotes 13 = .ok (.aload_n 0, 1) := by decide +kernel
theorem dX1_tellVotes_14 : decode cX1_tellVotes 14 = .ok (.getfield 63, 3) := by decide +kernel
theorem dX1_tellVotes_17 : decode cX1_tellVotes 17 = .ok (.if_icmp .ge 105, 3) := by decide +kernel
theorem dX1_tellVotes_20 : decode cX1_tellVotes 20 = .ok (.aload_n 0, 1) := by decide +kernel
theorem dX1_tellVotes_21 : decode cX1_tellVotes 21 = .ok (.iload_n 1, 1) := by decide +kernel
theorem dX1_tellVotes_22 : decode cX1_tellVotes 22 = .ok (.invokevirtual 162, 3) := by decide +kernel
theorem dX1_tellVotes_25 : decode cX1_tellVotes 25 = .ok (.istore_n 2, 1) := by decide +kernel
theorem dX1_tellVotes_26 : decode cX1_tellVotes 26 = .ok (.iload_n 2, 1) := by decide +kernel
theorem dX1_tellVotes_27 : decode cX1_tellVotes 27 = .ok (.iconst (-1), 1) := by decide +kernel
theorem dX1_tellVotes_28 : decode cX1_tellVotes 28 = .ok (.if_icmp .ne 43, 3) := by decide +kernel
theorem dX1_tellVotes_31 : decode cX1_tellVotes 31 = .ok (.aload_n 0, 1) := by decide +kernel
theorem dX1_tellVotes_32 : decode cX1_tellVotes 32 = .ok (.getfield 26, 3) := by decide +kernel
theorem dX1_tellVotes_35 : decode cX1_tellVotes 35 = .ok (.iload_n 1, 1) := by decide +kernel
theorem dX1_tellVotes_36 : decode cX1_tellVotes 36 = .ok (.invokevirtual 128, 3) := by decide +kernel
theorem dX1_tellVotes_39 : decode cX1_tellVotes 39 = .ok (.istore_n 3, 1) := by decide +kernel
theorem dX1_tellVotes_40 : decode cX1_tellVotes 40 = .ok (.iload_n 3, 1) := by decide +kernel
theorem dX1_tellVotes_41 : decode cX1_tellVotes 41 = .ok (.iload_n 1, 1) := by decide +kernel
theorem dX1_tellVotes_42 : decode cX1_tellVotes 42 = .ok (.if_icmp .ne 11, 3) := by decide +kernel
theorem dX1_tellVotes_45 : decode cX1_tellVotes 45 = .ok (.aload_n 0, 1) := by decide +kernel
theorem dX1_tellVotes_46 : decode cX1_tellVotes 46 = .ok (.iload_n 3, 1) := by decide +kernel
theorem dX1_tellVotes_47 : decode cX1_tellVotes 47 = .ok (.invokevirtual 165, 3) := by decide +kernel
theorem dX1_tellVotes_50 : decode cX1_tellVotes 50 = .ok (.goto 20, 3) := by decide +kernel
theorem dX1_tellVotes_53 : decode cX1_tellVotes 53 = .ok (.aload_n 0, 1) := by decide +kernel
theorem dX1_tellVotes_54 : decode cX1_tellVotes 54 = .ok (.getfield 32, 3) := by decide +kernel
theorem dX1_tellVotes_57 : decode cX1_tellVotes 57 = .ok (.iload_n 3, 1) := by decide +kernel
theorem dX1_tellVotes_58 : decode cX1_tellVotes 58 = .ok (.invokevirtual 128, 3) := by decide +kernel
theorem dX1_tellVotes_61 : decode cX1_tellVotes 61 = .ok (.aload_n 0, 1) := by decide +kernel
theorem dX1_tellVotes_62 : decode cX1_tellVotes 62 = .ok (.getfield 29, 3) := by decide +kernel
theorem dX1_tellVotes_65 : decode cX1_tellVotes 65 = .ok (.iload_n 1, 1) := by decide +kernel
theorem dX1_tellVotes_66 : decode cX1_tellVotes 66 = .ok (.invokevirtual 128, 3) := by decide +kernel
theorem dX1_tellVotes_69 : decode cX1_tellVotes 69 = .ok (.ixor, 1) := by decide +kernel
theorem dX1_tellVotes_70 : decode cX1_tellVotes 70 = .ok (.istore_n 2, 1) := by decide +kernel
theorem dX1_tellVotes_71 : decode cX1_tellVotes 71 = .ok (.aload_n 0, 1) := by decide +kernel
theorem dX1_tellVotes_72 : decode cX1_tellVotes 72 = .ok (.getfield 32, 3) := by decide +kernel
theorem dX1_tellVotes_75 : decode cX1_tellVotes 75 = .ok (.iload_n 1, 1) := by decide +kernel
theorem dX1_tellVotes_76 : decode cX1_tellVotes 76 = .ok (.iload_n 2, 1) := by decide +kernel
theorem dX1_tellVotes_77 : decode cX1_tellVotes 77 = .ok (.invokevirtual 81, 3) := by decide +kernel
theorem dX1_tellVotes_80 : decode cX1_tellVotes 80 = .ok (.aload_n 0, 1) := by decide +kernel
theorem dX1_tellVotes_81 : decode cX1_tellVotes 81 = .ok (.dup, 1) := by decide +kernel
theorem dX1_tellVotes_82 : decode cX1_tellVotes 82 = .ok (.getfield 69, 3) := by decide +kernel
theorem dX1_tellVotes_85 : decode cX1_tellVotes 85 = .ok (.aload_n 0, 1) := by decide +kernel
theorem dX1_tellVotes_86 : decode cX1_tellVotes 86 = .ok (.getfield 14, 3) := by decide +kernel
theorem dX1_tellVotes_89 : decode cX1_tellVotes 89 = .ok (.iload_n 1, 1) := by decide +kernel
theorem dX1_tellVotes_90 : decode cX1_tellVotes 90 = .ok (.invokevirtual 128, 3) := by decide +kernel
theorem dX1_tellVotes_93 : decode cX1_tellVotes 93 = .ok (.iadd, 1) := by decide +kernel
theorem dX1_tellVotes_94 : decode cX1_tellVotes 94 = .ok (.putfield 69, 3) := by decide +kernel
theorem dX1_tellVotes_97 : decode cX1_tellVotes 97 = .ok (.aload_n 0, 1) := by decide +kernel
theorem dX1_tellVotes_98 : decode cX1_tellVotes 98 = .ok (.dup, 1) := by decide +kernel
theorem dX1_tellVotes_99 : decode cX1_tellVotes 99 = .ok (.getfield 72, 3) := by decide +kernel
theorem dX1_tellVotes_102 : decode cX1_tellVotes 102 = .ok (.iload_n 2, 1) := by decide +kernel
theorem dX1_tellVotes_103 : decode cX1_tellVotes 103 = .ok (.aload_n 0, 1) := by decide +kernel
theorem dX1_tellVotes_104 : decode cX1_tellVotes 104 = .ok (.getfield 14, 3) := by decide +kernel
theorem dX1_tellVotes_107 : decode cX1_tellVotes 107 = .ok (.iload_n 1, 1) := by decide +kernel
theorem dX1_tellVotes_108 : decode cX1_tellVotes 108 = .ok (.invokevirtual 128, 3) := by decide +kernel
theorem dX1_tellVotes_111 : decode cX1_tellVotes 111 = .ok (.imul, 1) := by decide +kernel
theorem dX1_tellVotes_112 : decode cX1_tellVotes 112 = .ok (.iadd, 1) := by decide +kernel
theorem dX1_tellVotes_113 : decode cX1_tellVotes 113 = .ok (.putfield 72, 3) := by decide +kernel
theorem dX1_tellVotes_116 : decode cX1_tellVotes 116 = .ok (.iinc 1 1, 3) := by decide +kernel
theorem dX1_tellVotes_119 : decode cX1_tellVotes 119 = .ok (.goto (-107), 3) := by decide +kernel
theorem dX1_tellVotes_122 : decode cX1_tellVotes 122 = .ok (.return_, 1) := by decide +kernel
theorem dX1_leadingVote_0 : decode cX1_leadingVote 0 = .ok (.iconst 0, 1) := by decide +kernel
theorem dX1_leadingVote_1 : decode cX1_leadingVote 1 = .ok (.istore_n 2, 1) := by decide +kernel
theorem dX1_leadingVote_2 : decode cX1_leadingVote 2 = .ok (.iconst 0, 1) := by decide +kernel
theorem dX1_leadingVote_3 : decode cX1_leadingVote 3 = .ok (.istore_n 3, 1) := by decide +kernel
theorem dX1_leadingVote_4 : decode cX1_leadingVote 4 = .ok (.iload_n 1, 1) := by decide +kernel
theorem dX1_leadingVote_5 : decode cX1_leadingVote 5 = .ok (.istore 4, 2) := by decide +kernel
theorem dX1_leadingVote_7 : decode cX1_leadingVote 7 = .ok (.iload 4, 2) := by decide +kernel
theorem dX1_leadingVote_9 : decode cX1_leadingVote 9 = .ok (.aload_n 0, 1) := by decide +kernel
theorem dX1_leadingVote_10 : decode cX1_leadingVote 10 = .ok (.getfield 63, 3) := by decide +kernel
theorem dX1_leadingVote_13 : decode cX1_leadingVote 13 = .ok (.if_icmp .ge 73, 3) := by decide +kernel
theorem dX1_leadingVote_16 : decode cX1_leadingVote 16 = .ok (.aload_n 0, 1) := by decide +kernel
theorem dX1_leadingVote_17 : decode cX1_leadingVote 17 = .ok (.getfield 26, 3) := by decide +kernel
theorem dX1_leadingVote_20 : decode cX1_leadingVote 20 = .ok (.iload 4, 2) := by decide +kernel
theorem dX1_leadingVote_22 : decode cX1_leadingVote 22 = .ok (.invokevirtual 128, 3) := by decide +kernel
theorem dX1_leadingVote_25 : decode cX1_leadingVote 25 = .ok (.iload_n 1, 1) := by decide +kernel
theorem dX1_leadingVote_26 : decode cX1_leadingVote 26 = .ok (.if_icmp .eq 6, 3) := by decide +kernel
theorem dX1_leadingVote_29 : decode cX1_leadingVote 29 = .ok (.goto 51, 3) := by decide +kernel
theorem dX1_leadingVote_32 : decode cX1_leadingVote 32 = .ok (.aload_n 0, 1) := by decide +kernel
theorem dX1_leadingVote_33 : decode cX1_leadingVote 33 = .ok (.getfield 20, 3) := by decide +kernel
theorem dX1_leadingVote_36 : decode cX1_leadingVote 36 = .ok (.iload 4, 2) := by decide +kernel
theorem dX1_leadingVote_38 : decode cX1_leadingVote 38 = .ok (.invokevirtual 128, 3) := by decide +kernel
theorem dX1_leadingVote_41 : decode cX1_leadingVote 41 = .ok (.aload_n 0, 1) := by decide +kernel
theorem dX1_leadingVote_42 : decode cX1_leadingVote 42 = .ok (.getfield 29, 3) := by decide +kernel
theorem dX1_leadingVote_45 : decode cX1_leadingVote 45 = .ok (.iload 4, 2) := by decide +kernel
theorem dX1_leadingVote_47 : decode cX1_leadingVote 47 = .ok (.invokevirtual 128, 3) := by decide +kernel
theorem dX1_leadingVote_50 : decode cX1_leadingVote 50 = .ok (.if_icmp .eq 18, 3) := by decide +kernel
theorem dX1_leadingVote_53 : decode cX1_leadingVote 53 = .ok (.iload_n 2, 1) := by decide +kernel
theorem dX1_leadingVote_54 : decode cX1_leadingVote 54 = .ok (.aload_n 0, 1) := by decide +kernel
theorem dX1_leadingVote_55 : decode cX1_leadingVote 55 = .ok (.getfield 14, 3) := by decide +kernel
theorem dX1_leadingVote_58 : decode cX1_leadingVote 58 = .ok (.iload 4, 2) := by decide +kernel
theorem dX1_leadingVote_60 : decode cX1_leadingVote 60 = .ok (.invokevirtual 128, 3) := by decide +kernel
theorem dX1_leadingVote_63 : decode cX1_leadingVote 63 = .ok (.iadd, 1) := by decide +kernel
theorem dX1_leadingVote_64 : decode cX1_leadingVote 64 = .ok (.istore_n 2, 1) := by decide +kernel
theorem dX1_leadingVote_65 : decode cX1_leadingVote 65 = .ok (.goto 15, 3) := by decide +kernel
theorem dX1_leadingVote_68 : decode cX1_leadingVote 68 = .ok (.iload_n 3, 1) := by decide +kernel
theorem dX1_leadingVote_69 : decode cX1_leadingVote 69 = .ok (.aload_n 0, 1) := by decide +kernel
theorem dX1_leadingVote_70 : decode cX1_leadingVote 70 = .ok (.getfield 14, 3) := by decide +kernel
theorem dX1_leadingVote_73 : decode cX1_leadingVote 73 = .ok (.iload 4, 2) := by decide +kernel
theorem dX1_leadingVote_75 : decode cX1_leadingVote 75 = .ok (.invokevirtual 128, 3) := by decide +kernel
theorem dX1_leadingVote_78 : decode cX1_leadingVote 78 = .ok (.iadd, 1) := by decide +kernel
theorem dX1_leadingVote_79 : decode cX1_leadingVote 79 = .ok (.istore_n 3, 1) := by decide +kernel
theorem dX1_leadingVote_80 : decode cX1_leadingVote 80 = .ok (.iinc 4 1, 3) := by decide +kernel
theorem dX1_leadingVote_83 : decode cX1_leadingVote 83 = .ok (.goto (-76), 3) := by decide +kernel
theorem dX1_leadingVote_86 : decode cX1_leadingVote 86 = .ok (.iload_n 2, 1) := by decide +kernel
theorem dX1_leadingVote_87 : decode cX1_leadingVote 87 = .ok (.iload_n 3, 1) := by decide +kernel
theorem dX1_leadingVote_88 : decode cX1_leadingVote 88 = .ok (.if_icmp .ne 12, 3) := by decide +kernel
theorem dX1_leadingVote_91 : decode cX1_leadingVote 91 = .ok (.aload_n 0, 1) := by decide +kernel
theorem dX1_leadingVote_92 : decode cX1_leadingVote 92 = .ok (.getfield 20, 3) := by decide +kernel
theorem dX1_leadingVote_95 : decode cX1_leadingVote 95 = .ok (.iload_n 1, 1) := by decide +kernel
theorem dX1_leadingVote_96 : decode cX1_leadingVote 96 = .ok (.invokevirtual 128, 3) := by decide +kernel
theorem dX1_leadingVote_99 : decode cX1_leadingVote 99 = .ok (.ireturn, 1) := by decide +kernel
theorem dX1_leadingVote_100 : decode cX1_leadingVote 100 = .ok (.iload_n 2, 1) := by decide +kernel
theorem dX1_leadingVote_101 : decode cX1_leadingVote 101 = .ok (.iload_n 3, 1) := by decide +kernel
theorem dX1_leadingVote_102 : decode cX1_leadingVote 102 = .ok (.if_icmp .le 7, 3) := by decide +kernel
theorem dX1_leadingVote_105 : decode cX1_leadingVote 105 = .ok (.iconst 1, 1) := by decide +kernel
theorem dX1_leadingVote_106 : decode cX1_leadingVote 106 = .ok (.goto 4, 3) := by decide +kernel
theorem dX1_leadingVote_109 : decode cX1_leadingVote 109 = .ok (.iconst 0, 1) := by decide +kernel
theorem dX1_leadingVote_110 : decode cX1_leadingVote 110 = .ok (.ireturn, 1) := by decide +kernel
theorem dX1_pulledVote_0 : decode cX1_pulledVote 0 = .ok (.iconst 0, 1) := by decide +kernel
theorem dX1_pulledVote_1 : decode cX1_pulledVote 1 = .ok (.istore_n 2, 1) := by decide +kernel
theorem dX1_pulledVote_2 : decode cX1_pulledVote 2 = .ok (.iload_n 2, 1) := by decide +kernel
theorem dX1_pulledVote_3 : decode cX1_pulledVote 3 = .ok (.aload_n 0, 1) := by decide +kernel
theorem dX1_pulledVote_4 : decode cX1_pulledVote 4 = .ok (.getfield 63, 3) := by decide +kernel
theorem dX1_pulledVote_7 : decode cX1_pulledVote 7 = .ok (.if_icmp .ge 62, 3) := by decide +kernel
theorem dX1_pulledVote_10 : decode cX1_pulledVote 10 = .ok (.aload_n 0, 1) := by decide +kernel
theorem dX1_pulledVote_11 : decode cX1_pulledVote 11 = .ok (.getfield 23, 3) := by decide +kernel
theorem dX1_pulledVote_14 : decode cX1_pulledVote 14 = .ok (.iload_n 2, 1) := by decide +kernel
theorem dX1_pulledVote_15 : decode cX1_pulledVote 15 = .ok (.invokevirtual 128, 3) := by decide +kernel
theorem dX1_pulledVote_18 : decode cX1_pulledVote 18 = .ok (.istore_n 3, 1) := by decide +kernel
theorem dX1_pulledVote_19 : decode cX1_pulledVote 19 = .ok (.iload_n 3, 1) := by decide +kernel
theorem dX1_pulledVote_20 : decode cX1_pulledVote 20 = .ok (.iconst (-1), 1) := by decide +kernel
theorem dX1_pulledVote_21 : decode cX1_pulledVote 21 = .ok (.if_icmp .eq 42, 3) := by decide +kernel
theorem dX1_pulledVote_24 : decode cX1_pulledVote 24 = .ok (.aload_n 0, 1) := by decide +kernel
theorem dX1_pulledVote_25 : decode cX1_pulledVote 25 = .ok (.getfield 26, 3) := by decide +kernel
theorem dX1_pulledVote_28 : decode cX1_pulledVote 28 = .ok (.iload_n 2, 1) := by decide +kernel
theorem dX1_pulledVote_29 : decode cX1_pulledVote 29 = .ok (.invokevirtual 128, 3) := by decide +kernel
theorem dX1_pulledVote_32 : decode cX1_pulledVote 32 = .ok (.aload_n 0, 1) := by decide +kernel
theorem dX1_pulledVote_33 : decode cX1_pulledVote 33 = .ok (.getfield 26, 3) := by decide +kernel
theorem dX1_pulledVote_36 : decode cX1_pulledVote 36 = .ok (.iload_n 1, 1) := by decide +kernel
theorem dX1_pulledVote_37 : decode cX1_pulledVote 37 = .ok (.invokevirtual 128, 3) := by decide +kernel
theorem dX1_pulledVote_40 : decode cX1_pulledVote 40 = .ok (.if_icmp .ne 23, 3) := by decide +kernel
theorem dX1_pulledVote_43 : decode cX1_pulledVote 43 = .ok (.iload_n 3, 1) := by decide +kernel
theorem dX1_pulledVote_44 : decode cX1_pulledVote 44 = .ok (.aload_n 0, 1) := by decide +kernel
theorem dX1_pulledVote_45 : decode cX1_pulledVote 45 = .ok (.getfield 29, 3) := by decide +kernel
theorem dX1_pulledVote_48 : decode cX1_pulledVote 48 = .ok (.iload_n 2, 1) := by decide +kernel
theorem dX1_pulledVote_49 : decode cX1_pulledVote 49 = .ok (.invokevirtual 128, 3) := by decide +kernel
theorem dX1_pulledVote_52 : decode cX1_pulledVote 52 = .ok (.ixor, 1) := by decide +kernel
theorem dX1_pulledVote_53 : decode cX1_pulledVote 53 = .ok (.aload_n 0, 1) := by decide +kernel
theorem dX1_pulledVote_54 : decode cX1_pulledVote 54 = .ok (.getfield 29, 3) := by decide +kernel
theorem dX1_pulledVote_57 : decode cX1_pulledVote 57 = .ok (.iload_n 1, 1) := by decide +kernel
theorem dX1_pulledVote_58 : decode cX1_pulledVote 58 = .ok (.invokevirtual 128, 3) := by decide +kernel
theorem dX1_pulledVote_61 : decode cX1_pulledVote 61 = .ok (.ixor, 1) := by decide +kernel
theorem dX1_pulledVote_62 : decode cX1_pulledVote 62 = .ok (.ireturn, 1) := by decide +kernel
theorem dX1_pulledVote_63 : decode cX1_pulledVote 63 = .ok (.iinc 2 1, 3) := by decide +kernel
theorem dX1_pulledVote_66 : decode cX1_pulledVote 66 = .ok (.goto (-64), 3) := by decide +kernel
theorem dX1_pulledVote_69 : decode cX1_pulledVote 69 = .ok (.iconst (-1), 1) := by decide +kernel
theorem dX1_pulledVote_70 : decode cX1_pulledVote 70 = .ok (.ireturn, 1) := by decide +kernel
theorem dX1_hasPuppet_0 : decode cX1_hasPuppet 0 = .ok (.iload_n 1, 1) := by decide +kernel
theorem dX1_hasPuppet_1 : decode cX1_hasPuppet 1 = .ok (.ifCond .lt 15, 3) := by decide +kernel
theorem dX1_hasPuppet_4 : decode cX1_hasPuppet 4 = .ok (.iload_n 1, 1) := by decide +kernel
theorem dX1_hasPuppet_5 : decode cX1_hasPuppet 5 = .ok (.aload_n 0, 1) := by decide +kernel
theorem dX1_hasPuppet_6 : decode cX1_hasPuppet 6 = .ok (.getfield 63, 3) := by decide +kernel
theorem dX1_hasPuppet_9 : decode cX1_hasPuppet 9 = .ok (.if_icmp .ge 7, 3) := by decide +kernel
theorem dX1_hasPuppet_12 : decode cX1_hasPuppet 12 = .ok (.iconst 1, 1) := by decide +kernel
theorem dX1_hasPuppet_13 : decode cX1_hasPuppet 13 = .ok (.goto 4, 3) := by decide +kernel
theorem dX1_hasPuppet_16 : decode cX1_hasPuppet 16 = .ok (.iconst 0, 1) := by decide +kernel
theorem dX1_hasPuppet_17 : decode cX1_hasPuppet 17 = .ok (.ireturn, 1) := by decide +kernel
theorem dX1_arePair_0 : decode cX1_arePair 0 = .ok (.aload_n 0, 1) := by decide +kernel
theorem dX1_arePair_1 : decode cX1_arePair 1 = .ok (.iload_n 1, 1) := by decide +kernel
theorem dX1_arePair_2 : decode cX1_arePair 2 = .ok (.invokevirtual 118, 3) := by decide +kernel
theorem dX1_arePair_5 : decode cX1_arePair 5 = .ok (.ifCond .eq 20, 3) := by decide +kernel
theorem dX1_arePair_8 : decode cX1_arePair 8 = .ok (.aload_n 0, 1) := by decide +kernel
theorem dX1_arePair_9 : decode cX1_arePair 9 = .ok (.iload_n 2, 1) := by decide +kernel
theorem dX1_arePair_10 : decode cX1_arePair 10 = .ok (.invokevirtual 118, 3) := by decide +kernel
theorem dX1_arePair_13 : decode cX1_arePair 13 = .ok (.ifCond .eq 12, 3) := by decide +kernel
theorem dX1_arePair_16 : decode cX1_arePair 16 = .ok (.iload_n 1, 1) := by decide +kernel
theorem dX1_arePair_17 : decode cX1_arePair 17 = .ok (.iload_n 2, 1) := by decide +kernel
theorem dX1_arePair_18 : decode cX1_arePair 18 = .ok (.if_icmp .eq 7, 3) := by decide +kernel
theorem dX1_arePair_21 : decode cX1_arePair 21 = .ok (.iconst 1, 1) := by decide +kernel
theorem dX1_arePair_22 : decode cX1_arePair 22 = .ok (.goto 4, 3) := by decide +kernel
theorem dX1_arePair_25 : decode cX1_arePair 25 = .ok (.iconst 0, 1) := by decide +kernel
theorem dX1_arePair_26 : decode cX1_arePair 26 = .ok (.ireturn, 1) := by decide +kernel
theorem dX1_isPulled_0 : decode cX1_isPulled 0 = .ok (.aload_n 0, 1) := by decide +kernel
theorem dX1_isPulled_1 : decode cX1_isPulled 1 = .ok (.getfield 23, 3) := by decide +kernel
theorem dX1_isPulled_4 : decode cX1_isPulled 4 = .ok (.iload_n 1, 1) := by decide +kernel
theorem dX1_isPulled_5 : decode cX1_isPulled 5 = .ok (.invokevirtual 128, 3) := by decide +kernel
theorem dX1_isPulled_8 : decode cX1_isPulled 8 = .ok (.iconst (-1), 1) := by decide +kernel
theorem dX1_isPulled_9 : decode cX1_isPulled 9 = .ok (.if_icmp .eq 7, 3) := by decide +kernel
theorem dX1_isPulled_12 : decode cX1_isPulled 12 = .ok (.iconst 1, 1) := by decide +kernel
theorem dX1_isPulled_13 : decode cX1_isPulled 13 = .ok (.goto 4, 3) := by decide +kernel
theorem dX1_isPulled_16 : decode cX1_isPulled 16 = .ok (.iconst 0, 1) := by decide +kernel
theorem dX1_isPulled_17 : decode cX1_isPulled 17 = .ok (.ireturn, 1) := by decide +kernel
theorem dX1_hangTogether_0 : decode cX1_hangTogether 0 = .ok (.aload_n 0, 1) := by decide +kernel
theorem dX1_hangTogether_1 : decode cX1_hangTogether 1 = .ok (.getfield 26, 3) := by decide +kernel
theorem dX1_hangTogether_4 : decode cX1_hangTogether 4 = .ok (.iload_n 1, 1) := by decide +kernel
theorem dX1_hangTogether_5 : decode cX1_hangTogether 5 = .ok (.invokevirtual 128, 3) := by decide +kernel
theorem dX1_hangTogether_8 : decode cX1_hangTogether 8 = .ok (.aload_n 0, 1) := by decide +kernel
theorem dX1_hangTogether_9 : decode cX1_hangTogether 9 = .ok (.getfield 26, 3) := by decide +kernel
theorem dX1_hangTogether_12 : decode cX1_hangTogether 12 = .ok (.iload_n 2, 1) := by decide +kernel
theorem dX1_hangTogether_13 : decode cX1_hangTogether 13 = .ok (.invokevirtual 128, 3) := by decide +kernel
theorem dX1_hangTogether_16 : decode cX1_hangTogether 16 = .ok (.if_icmp .ne 7, 3) := by decide +kernel
theorem dX1_hangTogether_19 : decode cX1_hangTogether 19 = .ok (.iconst 1, 1) := by decide +kernel
theorem dX1_hangTogether_20 : decode cX1_hangTogether 20 = .ok (.goto 4, 3) := by decide +kernel
theorem dX1_hangTogether_23 : decode cX1_hangTogether 23 = .ok (.iconst 0, 1) := by decide +kernel
theorem dX1_hangTogether_24 : decode cX1_hangTogether 24 = .ok (.ireturn, 1) := by decide +kernel
theorem dX1_reasonAgainstString_0 : decode cX1_reasonAgainstString 0 = .ok (.aload_n 0, 1) := by decide +kernel
theorem dX1_reasonAgainstString_1 : decode cX1_reasonAgainstString 1 = .ok (.getfield 38, 3) := by decide +kernel
theorem dX1_reasonAgainstString_4 : decode cX1_reasonAgainstString 4 = .ok (.iload_n 1, 1) := by decide +kernel
theorem dX1_reasonAgainstString_5 : decode cX1_reasonAgainstString 5 = .ok (.iload_n 2, 1) := by decide +kernel
theorem dX1_reasonAgainstString_6 : decode cX1_reasonAgainstString 6 = .ok (.invokevirtual 168, 3) := by decide +kernel
theorem dX1_reasonAgainstString_9 : decode cX1_reasonAgainstString 9 = .ok (.ifCond .eq 5, 3) := by decide +kernel
theorem dX1_reasonAgainstString_12 : decode cX1_reasonAgainstString 12 = .ok (.iconst 1, 1) := by decide +kernel
theorem dX1_reasonAgainstString_13 : decode cX1_reasonAgainstString 13 = .ok (.ireturn, 1) := by decide +kernel
theorem dX1_reasonAgainstString_14 : decode cX1_reasonAgainstString 14 = .ok (.aload_n 0, 1) := by decide +kernel
theorem dX1_reasonAgainstString_15 : decode cX1_reasonAgainstString 15 = .ok (.iload_n 1, 1) := by decide +kernel
theorem dX1_reasonAgainstString_16 : decode cX1_reasonAgainstString 16 = .ok (.iload_n 2, 1) := by decide +kernel
theorem dX1_reasonAgainstString_17 : decode cX1_reasonAgainstString 17 = .ok (.invokevirtual 171, 3) := by decide +kernel
theorem dX1_reasonAgainstString_20 : decode cX1_reasonAgainstString 20 = .ok (.ifCond .eq 30, 3) := by decide +kernel
theorem dX1_reasonAgainstString_23 : decode cX1_reasonAgainstString 23 = .ok (.aload_n 0, 1) := by decide +kernel
theorem dX1_reasonAgainstString_24 : decode cX1_reasonAgainstString 24 = .ok (.getfield 29, 3) := by decide +kernel
theorem dX1_reasonAgainstString_27 : decode cX1_reasonAgainstString 27 = .ok (.iload_n 1, 1) := by decide +kernel
theorem dX1_reasonAgainstString_28 : decode cX1_reasonAgainstString 28 = .ok (.invokevirtual 128, 3) := by decide +kernel
theorem dX1_reasonAgainstString_31 : decode cX1_reasonAgainstString 31 = .ok (.aload_n 0, 1) := by decide +kernel
theorem dX1_reasonAgainstString_32 : decode cX1_reasonAgainstString 32 = .ok (.getfield 29, 3) := by decide +kernel
theorem dX1_reasonAgainstString_35 : decode cX1_reasonAgainstString 35 = .ok (.iload_n 2, 1) := by decide +kernel
theorem dX1_reasonAgainstString_36 : decode cX1_reasonAgainstString 36 = .ok (.invokevirtual 128, 3) := by decide +kernel
theorem dX1_reasonAgainstString_39 : decode cX1_reasonAgainstString 39 = .ok (.ixor, 1) := by decide +kernel
theorem dX1_reasonAgainstString_40 : decode cX1_reasonAgainstString 40 = .ok (.iload_n 3, 1) := by decide +kernel
theorem dX1_reasonAgainstString_41 : decode cX1_reasonAgainstString 41 = .ok (.if_icmp .ne 7, 3) := by decide +kernel
theorem dX1_reasonAgainstString_44 : decode cX1_reasonAgainstString 44 = .ok (.iconst 0, 1) := by decide +kernel
theorem dX1_reasonAgainstString_45 : decode cX1_reasonAgainstString 45 = .ok (.goto 4, 3) := by decide +kernel
theorem dX1_reasonAgainstString_48 : decode cX1_reasonAgainstString 48 = .ok (.iconst 2, 1) := by decide +kernel
theorem dX1_reasonAgainstString_49 : decode cX1_reasonAgainstString 49 = .ok (.ireturn, 1) := by decide +kernel
theorem dX1_reasonAgainstString_50 : decode cX1_reasonAgainstString 50 = .ok (.aload_n 0, 1) := by decide +kernel
theorem dX1_reasonAgainstString_51 : decode cX1_reasonAgainstString 51 = .ok (.iload_n 1, 1) := by decide +kernel
theorem dX1_reasonAgainstString_52 : decode cX1_reasonAgainstString 52 = .ok (.invokevirtual 162, 3) := by decide +kernel
theorem dX1_reasonAgainstString_55 : decode cX1_reasonAgainstString 55 = .ok (.istore 4, 2) := by decide +kernel
theorem dX1_reasonAgainstString_57 : decode cX1_reasonAgainstString 57 = .ok (.aload_n 0, 1) := by decide +kernel
theorem dX1_reasonAgainstString_58 : decode cX1_reasonAgainstString 58 = .ok (.iload_n 2, 1) := by decide +kernel
theorem dX1_reasonAgainstString_59 : decode cX1_reasonAgainstString 59 = .ok (.invokevirtual 162, 3) := by decide +kernel
theorem dX1_reasonAgainstString_62 : decode cX1_reasonAgainstString 62 = .ok (.istore 5, 2) := by decide +kernel
theorem dX1_reasonAgainstString_64 : decode cX1_reasonAgainstString 64 = .ok (.iload 4, 2) := by decide +kernel
theorem dX1_reasonAgainstString_66 : decode cX1_reasonAgainstString 66 = .ok (.iconst (-1), 1) := by decide +kernel
theorem dX1_reasonAgainstString_67 : decode cX1_reasonAgainstString 67 = .ok (.if_icmp .eq 13, 3) := by decide +kernel
theorem dX1_reasonAgainstString_70 : decode cX1_reasonAgainstString 70 = .ok (.iload 5, 2) := by decide +kernel
theorem dX1_reasonAgainstString_72 : decode cX1_reasonAgainstString 72 = .ok (.iconst (-1), 1) := by decide +kernel
theorem dX1_reasonAgainstString_73 : decode cX1_reasonAgainstString 73 = .ok (.if_icmp .eq 7, 3) := by decide +kernel
theorem dX1_reasonAgainstString_76 : decode cX1_reasonAgainstString 76 = .ok (.iconst 1, 1) := by decide +kernel
theorem dX1_reasonAgainstString_77 : decode cX1_reasonAgainstString 77 = .ok (.goto 4, 3) := by decide +kernel
theorem dX1_reasonAgainstString_80 : decode cX1_reasonAgainstString 80 = .ok (.iconst 0, 1) := by decide +kernel
theorem dX1_reasonAgainstString_81 : decode cX1_reasonAgainstString 81 = .ok (.istore 6, 2) := by decide +kernel
theorem dX1_reasonAgainstString_83 : decode cX1_reasonAgainstString 83 = .ok (.iload 6, 2) := by decide +kernel
theorem dX1_reasonAgainstString_85 : decode cX1_reasonAgainstString 85 = .ok (.ifCond .eq 16, 3) := by decide +kernel
theorem dX1_reasonAgainstString_88 : decode cX1_reasonAgainstString 88 = .ok (.iload 4, 2) := by decide +kernel
theorem dX1_reasonAgainstString_90 : decode cX1_reasonAgainstString 90 = .ok (.iload 5, 2) := by decide +kernel
theorem dX1_reasonAgainstString_92 : decode cX1_reasonAgainstString 92 = .ok (.ixor, 1) := by decide +kernel
theorem dX1_reasonAgainstString_93 : decode cX1_reasonAgainstString 93 = .ok (.iload_n 3, 1) := by decide +kernel
theorem dX1_reasonAgainstString_94 : decode cX1_reasonAgainstString 94 = .ok (.if_icmp .eq 7, 3) := by decide +kernel
theorem dX1_reasonAgainstString_97 : decode cX1_reasonAgainstString 97 = .ok (.iconst 3, 1) := by decide +kernel
theorem dX1_reasonAgainstString_98 : decode cX1_reasonAgainstString 98 = .ok (.goto 4, 3) := by decide +kernel
theorem dX1_reasonAgainstString_101 : decode cX1_reasonAgainstString 101 = .ok (.iconst 0, 1) := by decide +kernel
theorem dX1_reasonAgainstString_102 : decode cX1_reasonAgainstString 102 = .ok (.ireturn, 1) := by decide +kernel
theorem dX1_reasonAgainstPull_0 : decode cX1_reasonAgainstPull 0 = .ok (.iload_n 1, 1) := by decide +kernel
theorem dX1_reasonAgainstPull_1 : decode cX1_reasonAgainstPull 1 = .ok (.aload_n 0, 1) := by decide +kernel
theorem dX1_reasonAgainstPull_2 : decode cX1_reasonAgainstPull 2 = .ok (.getfield 66, 3) := by decide +kernel
theorem dX1_reasonAgainstPull_5 : decode cX1_reasonAgainstPull 5 = .ok (.if_icmp .ne 5, 3) := by decide +kernel
theorem dX1_reasonAgainstPull_8 : decode cX1_reasonAgainstPull 8 = .ok (.iconst 1, 1) := by decide +kernel
theorem dX1_reasonAgainstPull_9 : decode cX1_reasonAgainstPull 9 = .ok (.ireturn, 1) := by decide +kernel
theorem dX1_reasonAgainstPull_10 : decode cX1_reasonAgainstPull 10 = .ok (.iconst 0, 1) := by decide +kernel
theorem dX1_reasonAgainstPull_11 : decode cX1_reasonAgainstPull 11 = .ok (.istore_n 3, 1) := by decide +kernel
theorem dX1_reasonAgainstPull_12 : decode cX1_reasonAgainstPull 12 = .ok (.iconst 0, 1) := by decide +kernel
theorem dX1_reasonAgainstPull_13 : decode cX1_reasonAgainstPull 13 = .ok (.istore 4, 2) := by decide +kernel
theorem dX1_reasonAgainstPull_15 : decode cX1_reasonAgainstPull 15 = .ok (.iload 4, 2) := by decide +kernel
theorem dX1_reasonAgainstPull_17 : decode cX1_reasonAgainstPull 17 = .ok (.aload_n 0, 1) := by decide +kernel
theorem dX1_reasonAgainstPull_18 : decode cX1_reasonAgainstPull 18 = .ok (.getfield 63, 3) := by decide +kernel
theorem dX1_reasonAgainstPull_21 : decode cX1_reasonAgainstPull 21 = .ok (.if_icmp .ge 78, 3) := by decide +kernel
theorem dX1_reasonAgainstPull_24 : decode cX1_reasonAgainstPull 24 = .ok (.iload 4, 2) := by decide +kernel
theorem dX1_reasonAgainstPull_26 : decode cX1_reasonAgainstPull 26 = .ok (.iload_n 1, 1) := by decide +kernel
theorem dX1_reasonAgainstPull_27 : decode cX1_reasonAgainstPull 27 = .ok (.if_icmp .eq 66, 3) := by decide +kernel
theorem dX1_reasonAgainstPull_30 : decode cX1_reasonAgainstPull 30 = .ok (.aload_n 0, 1) := by decide +kernel
theorem dX1_reasonAgainstPull_31 : decode cX1_reasonAgainstPull 31 = .ok (.iload 4, 2) := by decide +kernel
theorem dX1_reasonAgainstPull_33 : decode cX1_reasonAgainstPull 33 = .ok (.invokevirtual 125, 3) := by decide +kernel
theorem dX1_reasonAgainstPull_36 : decode cX1_reasonAgainstPull 36 = .ok (.ifCond .ne 6, 3) := by decide +kernel
theorem dX1_reasonAgainstPull_39 : decode cX1_reasonAgainstPull 39 = .ok (.goto 54, 3) := by decide +kernel
theorem dX1_reasonAgainstPull_42 : decode cX1_reasonAgainstPull 42 = .ok (.iinc 3 1, 3) := by decide +kernel
theorem dX1_reasonAgainstPull_45 : decode cX1_reasonAgainstPull 45 = .ok (.aload_n 0, 1) := by decide +kernel
theorem dX1_reasonAgainstPull_46 : decode cX1_reasonAgainstPull 46 = .ok (.getfield 23, 3) := by decide +kernel
theorem dX1_reasonAgainstPull_49 : decode cX1_reasonAgainstPull 49 = .ok (.iload 4, 2) := by decide +kernel
theorem dX1_reasonAgainstPull_51 : decode cX1_reasonAgainstPull 51 = .ok (.invokevirtual 128, 3) := by decide +kernel
theorem dX1_reasonAgainstPull_54 : decode cX1_reasonAgainstPull 54 = .ok (.aload_n 0, 1) := by decide +kernel
theorem dX1_reasonAgainstPull_55 : decode cX1_reasonAgainstPull 55 = .ok (.getfield 29, 3) := by decide +kernel
theorem dX1_reasonAgainstPull_58 : decode cX1_reasonAgainstPull 58 = .ok (.iload 4, 2) := by decide +kernel
theorem dX1_reasonAgainstPull_60 : decode cX1_reasonAgainstPull 60 = .ok (.invokevirtual 128, 3) := by decide +kernel
theorem dX1_reasonAgainstPull_63 : decode cX1_reasonAgainstPull 63 = .ok (.ixor, 1) := by decide +kernel
theorem dX1_reasonAgainstPull_64 : decode cX1_reasonAgainstPull 64 = .ok (.aload_n 0, 1) := by decide +kernel
theorem dX1_reasonAgainstPull_65 : decode cX1_reasonAgainstPull 65 = .ok (.getfield 29, 3) := by decide +kernel
theorem dX1_reasonAgainstPull_68 : decode cX1_reasonAgainstPull 68 = .ok (.iload_n 1, 1) := by decide +kernel
theorem dX1_reasonAgainstPull_69 : decode cX1_reasonAgainstPull 69 = .ok (.invokevirtual 128, 3) := by decide +kernel
theorem dX1_reasonAgainstPull_72 : decode cX1_reasonAgainstPull 72 = .ok (.ixor, 1) := by decide +kernel
theorem dX1_reasonAgainstPull_73 : decode cX1_reasonAgainstPull 73 = .ok (.istore 5, 2) := by decide +kernel
theorem dX1_reasonAgainstPull_75 : decode cX1_reasonAgainstPull 75 = .ok (.aload_n 0, 1) := by decide +kernel
theorem dX1_reasonAgainstPull_76 : decode cX1_reasonAgainstPull 76 = .ok (.iload 4, 2) := by decide +kernel
theorem dX1_reasonAgainstPull_78 : decode cX1_reasonAgainstPull 78 = .ok (.iload_n 1, 1) := by decide +kernel
theorem dX1_reasonAgainstPull_79 : decode cX1_reasonAgainstPull 79 = .ok (.invokevirtual 171, 3) := by decide +kernel
theorem dX1_reasonAgainstPull_82 : decode cX1_reasonAgainstPull 82 = .ok (.ifCond .eq 11, 3) := by decide +kernel
theorem dX1_reasonAgainstPull_85 : decode cX1_reasonAgainstPull 85 = .ok (.iload 5, 2) := by decide +kernel
theorem dX1_reasonAgainstPull_87 : decode cX1_reasonAgainstPull 87 = .ok (.iload_n 2, 1) := by decide +kernel
theorem dX1_reasonAgainstPull_88 : decode cX1_reasonAgainstPull 88 = .ok (.if_icmp .eq 5, 3) := by decide +kernel
theorem dX1_reasonAgainstPull_91 : decode cX1_reasonAgainstPull 91 = .ok (.iconst 2, 1) := by decide +kernel
theorem dX1_reasonAgainstPull_92 : decode cX1_reasonAgainstPull 92 = .ok (.ireturn, 1) := by decide +kernel
theorem dX1_reasonAgainstPull_93 : decode cX1_reasonAgainstPull 93 = .ok (.iinc 4 1, 3) := by decide +kernel
theorem dX1_reasonAgainstPull_96 : decode cX1_reasonAgainstPull 96 = .ok (.goto (-81), 3) := by decide +kernel
theorem dX1_reasonAgainstPull_99 : decode cX1_reasonAgainstPull 99 = .ok (.iload_n 3, 1) := by decide +kernel
theorem dX1_reasonAgainstPull_100 : decode cX1_reasonAgainstPull 100 = .ok (.aload_n 0, 1) := by decide +kernel
theorem dX1_reasonAgainstPull_101 : decode cX1_reasonAgainstPull 101 = .ok (.getfield 49, 3) := by decide +kernel
theorem dX1_reasonAgainstPull_104 : decode cX1_reasonAgainstPull 104 = .ok (.if_icmp .lt 7, 3) := by decide +kernel
theorem dX1_reasonAgainstPull_107 : decode cX1_reasonAgainstPull 107 = .ok (.iconst 3, 1) := by decide +kernel
theorem dX1_reasonAgainstPull_108 : decode cX1_reasonAgainstPull 108 = .ok (.goto 4, 3) := by decide +kernel
theorem dX1_reasonAgainstPull_111 : decode cX1_reasonAgainstPull 111 = .ok (.iconst 0, 1) := by decide +kernel
theorem dX1_reasonAgainstPull_112 : decode cX1_reasonAgainstPull 112 = .ok (.ireturn, 1) := by decide +kernel
theorem dX1_wouldPass_0 : decode cX1_wouldPass 0 = .ok (.aload_n 0, 1) := by decide +kernel
theorem dX1_wouldPass_1 : decode cX1_wouldPass 1 = .ok (.getfield 69, 3) := by decide +kernel
theorem dX1_wouldPass_4 : decode cX1_wouldPass 4 = .ok (.aload_n 0, 1) := by decide +kernel
theorem dX1_wouldPass_5 : decode cX1_wouldPass 5 = .ok (.getfield 72, 3) := by decide +kernel
theorem dX1_wouldPass_8 : decode cX1_wouldPass 8 = .ok (.isub, 1) := by decide +kernel
theorem dX1_wouldPass_9 : decode cX1_wouldPass 9 = .ok (.istore_n 1, 1) := by decide +kernel
theorem dX1_wouldPass_10 : decode cX1_wouldPass 10 = .ok (.aload_n 0, 1) := by decide +kernel
theorem dX1_wouldPass_11 : decode cX1_wouldPass 11 = .ok (.getfield 72, 3) := by decide +kernel
theorem dX1_wouldPass_14 : decode cX1_wouldPass 14 = .ok (.iload_n 1, 1) := by decide +kernel
theorem dX1_wouldPass_15 : decode cX1_wouldPass 15 = .ok (.if_icmp .ne 15, 3) := by decide +kernel
theorem dX1_wouldPass_18 : decode cX1_wouldPass 18 = .ok (.aload_n 0, 1) := by decide +kernel
theorem dX1_wouldPass_19 : decode cX1_wouldPass 19 = .ok (.getfield 32, 3) := by decide +kernel
theorem dX1_wouldPass_22 : decode cX1_wouldPass 22 = .ok (.aload_n 0, 1) := by decide +kernel
theorem dX1_wouldPass_23 : decode cX1_wouldPass 23 = .ok (.getfield 66, 3) := by decide +kernel
theorem dX1_wouldPass_26 : decode cX1_wouldPass 26 = .ok (.invokevirtual 128, 3) := by decide +kernel
theorem dX1_wouldPass_29 : decode cX1_wouldPass 29 = .ok (.ireturn, 1) := by decide +kernel
theorem dX1_wouldPass_30 : decode cX1_wouldPass 30 = .ok (.aload_n 0, 1) := by decide +kernel
theorem dX1_wouldPass_31 : decode cX1_wouldPass 31 = .ok (.getfield 72, 3) := by decide +kernel
theorem dX1_wouldPass_34 : decode cX1_wouldPass 34 = .ok (.iload_n 1, 1) := by decide +kernel
theorem dX1_wouldPass_35 : decode cX1_wouldPass 35 = .ok (.if_icmp .le 7, 3) := by decide +kernel
theorem dX1_wouldPass_38 : decode cX1_wouldPass 38 = .ok (.iconst 1, 1) := by decide +kernel
theorem dX1_wouldPass_39 : decode cX1_wouldPass 39 = .ok (.goto 4, 3) := by decide +kernel
theorem dX1_wouldPass_42 : decode cX1_wouldPass 42 = .ok (.iconst 0, 1) := by decide +kernel
theorem dX1_wouldPass_43 : decode cX1_wouldPass 43 = .ok (.ireturn, 1) := by decide +kernel
theorem dX1_seatsIn_0 : decode cX1_seatsIn 0 = .ok (.iconst 0, 1) := by decide +kernel
theorem dX1_seatsIn_1 : decode cX1_seatsIn 1 = .ok (.istore_n 2, 1) := by decide +kernel
theorem dX1_seatsIn_2 : decode cX1_seatsIn 2 = .ok (.iconst 0, 1) := by decide +kernel
theorem dX1_seatsIn_3 : decode cX1_seatsIn 3 = .ok (.istore_n 3, 1) := by decide +kernel
theorem dX1_seatsIn_4 : decode cX1_seatsIn 4 = .ok (.iload_n 3, 1) := by decide +kernel
theorem dX1_seatsIn_5 : decode cX1_seatsIn 5 = .ok (.aload_n 0, 1) := by decide +kernel
theorem dX1_seatsIn_6 : decode cX1_seatsIn 6 = .ok (.getfield 63, 3) := by decide +kernel
theorem dX1_seatsIn_9 : decode cX1_seatsIn 9 = .ok (.if_icmp .ge 28, 3) := by decide +kernel
theorem dX1_seatsIn_12 : decode cX1_seatsIn 12 = .ok (.iload_n 1, 1) := by decide +kernel
theorem dX1_seatsIn_13 : decode cX1_seatsIn 13 = .ok (.iload_n 3, 1) := by decide +kernel
theorem dX1_seatsIn_14 : decode cX1_seatsIn 14 = .ok (.invokestatic 174, 3) := by decide +kernel
theorem dX1_seatsIn_17 : decode cX1_seatsIn 17 = .ok (.ifCond .eq 14, 3) := by decide +kernel
theorem dX1_seatsIn_20 : decode cX1_seatsIn 20 = .ok (.iload_n 2, 1) := by decide +kernel
theorem dX1_seatsIn_21 : decode cX1_seatsIn 21 = .ok (.aload_n 0, 1) := by decide +kernel
theorem dX1_seatsIn_22 : decode cX1_seatsIn 22 = .ok (.getfield 14, 3) := by decide +kernel
theorem dX1_seatsIn_25 : decode cX1_seatsIn 25 = .ok (.iload_n 3, 1) := by decide +kernel
theorem dX1_seatsIn_26 : decode cX1_seatsIn 26 = .ok (.invokevirtual 128, 3) := by decide +kernel
theorem dX1_seatsIn_29 : decode cX1_seatsIn 29 = .ok (.iadd, 1) := by decide +kernel
theorem dX1_seatsIn_30 : decode cX1_seatsIn 30 = .ok (.istore_n 2, 1) := by decide +kernel
theorem dX1_seatsIn_31 : decode cX1_seatsIn 31 = .ok (.iinc 3 1, 3) := by decide +kernel
theorem dX1_seatsIn_34 : decode cX1_seatsIn 34 = .ok (.goto (-30), 3) := by decide +kernel
theorem dX1_seatsIn_37 : decode cX1_seatsIn 37 = .ok (.iload_n 2, 1) := by decide +kernel
theorem dX1_seatsIn_38 : decode cX1_seatsIn 38 = .ok (.ireturn, 1) := by decide +kernel
theorem dX1_yesVoters_0 : decode cX1_yesVoters 0 = .ok (.iconst 0, 1) := by decide +kernel
theorem dX1_yesVoters_1 : decode cX1_yesVoters 1 = .ok (.istore_n 1, 1) := by decide +kernel
theorem dX1_yesVoters_2 : decode cX1_yesVoters 2 = .ok (.iconst 0, 1) := by decide +kernel
theorem dX1_yesVoters_3 : decode cX1_yesVoters 3 = .ok (.istore_n 2, 1) := by decide +kernel
theorem dX1_yesVoters_4 : decode cX1_yesVoters 4 = .ok (.iload_n 2, 1) := by decide +kernel
theorem dX1_yesVoters_5 : decode cX1_yesVoters 5 = .ok (.aload_n 0, 1) := by decide +kernel
theorem dX1_yesVoters_6 : decode cX1_yesVoters 6 = .ok (.getfield 63, 3) := by decide +kernel
theorem dX1_yesVoters_9 : decode cX1_yesVoters 9 = .ok (.if_icmp .ge 22, 3) := by decide +kernel
theorem dX1_yesVoters_12 : decode cX1_yesVoters 12 = .ok (.iload_n 1, 1) := by decide +kernel
theorem dX1_yesVoters_13 : decode cX1_yesVoters 13 = .ok (.aload_n 0, 1) := by decide +kernel
theorem dX1_yesVoters_14 : decode cX1_yesVoters 14 = .ok (.getfield 32, 3) := by decide +kernel
theorem dX1_yesVoters_17 : decode cX1_yesVoters 17 = .ok (.iload_n 2, 1) := by decide +kernel
theorem dX1_yesVoters_18 : decode cX1_yesVoters 18 = .ok (.invokevirtual 128, 3) := by decide +kernel
theorem dX1_yesVoters_21 : decode cX1_yesVoters 21 = .ok (.iload_n 2, 1) := by decide +kernel
theorem dX1_yesVoters_22 : decode cX1_yesVoters 22 = .ok (.ishl, 1) := by decide +kernel
theorem dX1_yesVoters_23 : decode cX1_yesVoters 23 = .ok (.ior, 1) := by decide +kernel
theorem dX1_yesVoters_24 : decode cX1_yesVoters 24 = .ok (.istore_n 1, 1) := by decide +kernel
theorem dX1_yesVoters_25 : decode cX1_yesVoters 25 = .ok (.iinc 2 1, 3) := by decide +kernel
theorem dX1_yesVoters_28 : decode cX1_yesVoters 28 = .ok (.goto (-24), 3) := by decide +kernel
theorem dX1_yesVoters_31 : decode cX1_yesVoters 31 = .ok (.iload_n 1, 1) := by decide +kernel
theorem dX1_yesVoters_32 : decode cX1_yesVoters 32 = .ok (.ireturn, 1) := by decide +kernel
theorem dX1_pulledPuppets_0 : decode cX1_pulledPuppets 0 = .ok (.iconst 0, 1) := by decide +kernel
theorem dX1_pulledPuppets_1 : decode cX1_pulledPuppets 1 = .ok (.istore_n 1, 1) := by decide +kernel
theorem dX1_pulledPuppets_2 : decode cX1_pulledPuppets 2 = .ok (.iconst 0, 1) := by decide +kernel
theorem dX1_pulledPuppets_3 : decode cX1_pulledPuppets 3 = .ok (.istore_n 2, 1) := by decide +kernel
theorem dX1_pulledPuppets_4 : decode cX1_pulledPuppets 4 = .ok (.iload_n 2, 1) := by decide +kernel
theorem dX1_pulledPuppets_5 : decode cX1_pulledPuppets 5 = .ok (.aload_n 0, 1) := by decide +kernel
theorem dX1_pulledPuppets_6 : decode cX1_pulledPuppets 6 = .ok (.getfield 63, 3) := by decide +kernel
theorem dX1_pulledPuppets_9 : decode cX1_pulledPuppets 9 = .ok (.if_icmp .ge 23, 3) := by decide +kernel
theorem dX1_pulledPuppets_12 : decode cX1_pulledPuppets 12 = .ok (.aload_n 0, 1) := by decide +kernel
theorem dX1_pulledPuppets_13 : decode cX1_pulledPuppets 13 = .ok (.iload_n 2, 1) := by decide +kernel
theorem dX1_pulledPuppets_14 : decode cX1_pulledPuppets 14 = .ok (.invokevirtual 125, 3) := by decide +kernel
theorem dX1_pulledPuppets_17 : decode cX1_pulledPuppets 17 = .ok (.ifCond .eq 9, 3) := by decide +kernel
theorem dX1_pulledPuppets_20 : decode cX1_pulledPuppets 20 = .ok (.iload_n 1, 1) := by decide +kernel
theorem dX1_pulledPuppets_21 : decode cX1_pulledPuppets 21 = .ok (.iconst 1, 1) := by decide +kernel
theorem dX1_pulledPuppets_22 : decode cX1_pulledPuppets 22 = .ok (.iload_n 2, 1) := by decide +kernel
theorem dX1_pulledPuppets_23 : decode cX1_pulledPuppets 23 = .ok (.ishl, 1) := by decide +kernel
theorem dX1_pulledPuppets_24 : decode cX1_pulledPuppets 24 = .ok (.ior, 1) := by decide +kernel
theorem dX1_pulledPuppets_25 : decode cX1_pulledPuppets 25 = .ok (.istore_n 1, 1) := by decide +kernel
theorem dX1_pulledPuppets_26 : decode cX1_pulledPuppets 26 = .ok (.iinc 2 1, 3) := by decide +kernel
theorem dX1_pulledPuppets_29 : decode cX1_pulledPuppets 29 = .ok (.goto (-25), 3) := by decide +kernel
theorem dX1_pulledPuppets_32 : decode cX1_pulledPuppets 32 = .ok (.iload_n 1, 1) := by decide +kernel
theorem dX1_pulledPuppets_33 : decode cX1_pulledPuppets 33 = .ok (.ireturn, 1) := by decide +kernel
theorem dX1_membersOf_0 : decode cX1_membersOf 0 = .ok (.iconst 0, 1) := by decide +kernel
theorem dX1_membersOf_1 : decode cX1_membersOf 1 = .ok (.istore_n 2, 1) := by decide +kernel
theorem dX1_membersOf_2 : decode cX1_membersOf 2 = .ok (.iconst 0, 1) := by decide +kernel
theorem dX1_membersOf_3 : decode cX1_membersOf 3 = .ok (.istore_n 3, 1) := by decide +kernel
theorem dX1_membersOf_4 : decode cX1_membersOf 4 = .ok (.iload_n 3, 1) := by decide +kernel
theorem dX1_membersOf_5 : decode cX1_membersOf 5 = .ok (.aload_n 0, 1) := by decide +kernel
theorem dX1_membersOf_6 : decode cX1_membersOf 6 = .ok (.getfield 63, 3) := by decide +kernel
theorem dX1_membersOf_9 : decode cX1_membersOf 9 = .ok (.if_icmp .ge 27, 3) := by decide +kernel
theorem dX1_membersOf_12 : decode cX1_membersOf 12 = .ok (.aload_n 0, 1) := by decide +kernel
theorem dX1_membersOf_13 : decode cX1_membersOf 13 = .ok (.getfield 26, 3) := by decide +kernel
theorem dX1_membersOf_16 : decode cX1_membersOf 16 = .ok (.iload_n 3, 1) := by decide +kernel
theorem dX1_membersOf_17 : decode cX1_membersOf 17 = .ok (.invokevirtual 128, 3) := by decide +kernel
theorem dX1_membersOf_20 : decode cX1_membersOf 20 = .ok (.iload_n 1, 1) := by decide +kernel
theorem dX1_membersOf_21 : decode cX1_membersOf 21 = .ok (.if_icmp .ne 9, 3) := by decide +kernel
theorem dX1_membersOf_24 : decode cX1_membersOf 24 = .ok (.iload_n 2, 1) := by decide +kernel
theorem dX1_membersOf_25 : decode cX1_membersOf 25 = .ok (.iconst 1, 1) := by decide +kernel
theorem dX1_membersOf_26 : decode cX1_membersOf 26 = .ok (.iload_n 3, 1) := by decide +kernel
theorem dX1_membersOf_27 : decode cX1_membersOf 27 = .ok (.ishl, 1) := by decide +kernel
theorem dX1_membersOf_28 : decode cX1_membersOf 28 = .ok (.ior, 1) := by decide +kernel
theorem dX1_membersOf_29 : decode cX1_membersOf 29 = .ok (.istore_n 2, 1) := by decide +kernel
theorem dX1_membersOf_30 : decode cX1_membersOf 30 = .ok (.iinc 3 1, 3) := by decide +kernel
theorem dX1_membersOf_33 : decode cX1_membersOf 33 = .ok (.goto (-29), 3) := by decide +kernel
theorem dX1_membersOf_36 : decode cX1_membersOf 36 = .ok (.iload_n 2, 1) := by decide +kernel
theorem dX1_membersOf_37 : decode cX1_membersOf 37 = .ok (.ireturn, 1) := by decide +kernel
theorem dX1_groupsByJoining_0 : decode cX1_groupsByJoining 0 = .ok (.iconst 0, 1) := by decide +kernel
theorem dX1_groupsByJoining_1 : decode cX1_groupsByJoining 1 = .ok (.istore_n 1, 1) := by decide +kernel
theorem dX1_groupsByJoining_2 : decode cX1_groupsByJoining 2 = .ok (.iconst 0, 1) := by decide +kernel
theorem dX1_groupsByJoining_3 : decode cX1_groupsByJoining 3 = .ok (.istore_n 2, 1) := by decide +kernel
theorem dX1_groupsByJoining_4 : decode cX1_groupsByJoining 4 = .ok (.iload_n 2, 1) := by decide +kernel
theorem dX1_groupsByJoining_5 : decode cX1_groupsByJoining 5 = .ok (.aload_n 0, 1) := by decide +kernel
theorem dX1_groupsByJoining_6 : decode cX1_groupsByJoining 6 = .ok (.getfield 63, 3) := by decide +kernel
theorem dX1_groupsByJoining_9 : decode cX1_groupsByJoining 9 = .ok (.if_icmp .ge 24, 3) := by decide +kernel
theorem dX1_groupsByJoining_12 : decode cX1_groupsByJoining 12 = .ok (.aload_n 0, 1) := by decide +kernel
theorem dX1_groupsByJoining_13 : decode cX1_groupsByJoining 13 = .ok (.getfield 26, 3) := by decide +kernel
theorem dX1_groupsByJoining_16 : decode cX1_groupsByJoining 16 = .ok (.iload_n 2, 1) := by decide +kernel
theorem dX1_groupsByJoining_17 : decode cX1_groupsByJoining 17 = .ok (.invokevirtual 128, 3) := by decide +kernel
theorem dX1_groupsByJoining_20 : decode cX1_groupsByJoining 20 = .ok (.iload_n 2, 1) := by decide +kernel
theorem dX1_groupsByJoining_21 : decode cX1_groupsByJoining 21 = .ok (.if_icmp .ne 6, 3) := by decide +kernel
theorem dX1_groupsByJoining_24 : decode cX1_groupsByJoining 24 = .ok (.iinc 1 1, 3) := by decide +kernel
theorem dX1_groupsByJoining_27 : decode cX1_groupsByJoining 27 = .ok (.iinc 2 1, 3) := by decide +kernel
theorem dX1_groupsByJoining_30 : decode cX1_groupsByJoining 30 = .ok (.goto (-26), 3) := by decide +kernel
theorem dX1_groupsByJoining_33 : decode cX1_groupsByJoining 33 = .ok (.iload_n 1, 1) := by decide +kernel
theorem dX1_groupsByJoining_34 : decode cX1_groupsByJoining 34 = .ok (.ireturn, 1) := by decide +kernel
theorem dX1_groupsByWalking_0 : decode cX1_groupsByWalking 0 = .ok (.iconst 0, 1) := by decide +kernel
theorem dX1_groupsByWalking_1 : decode cX1_groupsByWalking 1 = .ok (.istore_n 1, 1) := by decide +kernel
theorem dX1_groupsByWalking_2 : decode cX1_groupsByWalking 2 = .ok (.iconst 0, 1) := by decide +kernel
theorem dX1_groupsByWalking_3 : decode cX1_groupsByWalking 3 = .ok (.istore_n 2, 1) := by decide +kernel
theorem dX1_groupsByWalking_4 : decode cX1_groupsByWalking 4 = .ok (.iconst 0, 1) := by decide +kernel
theorem dX1_groupsByWalking_5 : decode cX1_groupsByWalking 5 = .ok (.istore_n 3, 1) := by decide +kernel
theorem dX1_groupsByWalking_6 : decode cX1_groupsByWalking 6 = .ok (.iload_n 3, 1) := by decide +kernel
theorem dX1_groupsByWalking_7 : decode cX1_groupsByWalking 7 = .ok (.aload_n 0, 1) := by decide +kernel
theorem dX1_groupsByWalking_8 : decode cX1_groupsByWalking 8 = .ok (.getfield 63, 3) := by decide +kernel
theorem dX1_groupsByWalking_11 : decode cX1_groupsByWalking 11 = .ok (.if_icmp .ge 28, 3) := by decide +kernel
theorem dX1_groupsByWalking_14 : decode cX1_groupsByWalking 14 = .ok (.iload_n 2, 1) := by decide +kernel
theorem dX1_groupsByWalking_15 : decode cX1_groupsByWalking 15 = .ok (.iload_n 3, 1) := by decide +kernel
theorem dX1_groupsByWalking_16 : decode cX1_groupsByWalking 16 = .ok (.invokestatic 174, 3) := by decide +kernel
theorem dX1_groupsByWalking_19 : decode cX1_groupsByWalking 19 = .ok (.ifCond .ne 14, 3) := by decide +kernel
theorem dX1_groupsByWalking_22 : decode cX1_groupsByWalking 22 = .ok (.iload_n 2, 1) := by decide +kernel
theorem dX1_groupsByWalking_23 : decode cX1_groupsByWalking 23 = .ok (.aload_n 0, 1) := by decide +kernel
theorem dX1_groupsByWalking_24 : decode cX1_groupsByWalking 24 = .ok (.iload_n 3, 1) := by decide +kernel
theorem dX1_groupsByWalking_25 : decode cX1_groupsByWalking 25 = .ok (.invokevirtual 177, 3) := by decide +kernel
theorem dX1_groupsByWalking_28 : decode cX1_groupsByWalking 28 = .ok (.ior, 1) := by decide +kernel
theorem dX1_groupsByWalking_29 : decode cX1_groupsByWalking 29 = .ok (.istore_n 2, 1) := by decide +kernel
theorem dX1_groupsByWalking_30 : decode cX1_groupsByWalking 30 = .ok (.iinc 1 1, 3) := by decide +kernel
theorem dX1_groupsByWalking_33 : decode cX1_groupsByWalking 33 = .ok (.iinc 3 1, 3) := by decide +kernel
theorem dX1_groupsByWalking_36 : decode cX1_groupsByWalking 36 = .ok (.goto (-30), 3) := by decide +kernel
theorem dX1_groupsByWalking_39 : decode cX1_groupsByWalking 39 = .ok (.iload_n 1, 1) := by decide +kernel
theorem dX1_groupsByWalking_40 : decode cX1_groupsByWalking 40 = .ok (.ireturn, 1) := by decide +kernel
theorem dX1_walkFrom_0 : decode cX1_walkFrom 0 = .ok (.iconst 1, 1) := by decide +kernel
theorem dX1_walkFrom_1 : decode cX1_walkFrom 1 = .ok (.iload_n 1, 1) := by decide +kernel
theorem dX1_walkFrom_2 : decode cX1_walkFrom 2 = .ok (.ishl, 1) := by decide +kernel
theorem dX1_walkFrom_3 : decode cX1_walkFrom 3 = .ok (.istore_n 2, 1) := by decide +kernel
theorem dX1_walkFrom_4 : decode cX1_walkFrom 4 = .ok (.iconst 0, 1) := by decide +kernel
theorem dX1_walkFrom_5 : decode cX1_walkFrom 5 = .ok (.istore_n 3, 1) := by decide +kernel
theorem dX1_walkFrom_6 : decode cX1_walkFrom 6 = .ok (.iload_n 3, 1) := by decide +kernel
theorem dX1_walkFrom_7 : decode cX1_walkFrom 7 = .ok (.bipush 12, 2) := by decide +kernel
theorem dX1_walkFrom_9 : decode cX1_walkFrom 9 = .ok (.if_icmp .ge 18, 3) := by decide +kernel
theorem dX1_walkFrom_12 : decode cX1_walkFrom 12 = .ok (.aload_n 0, 1) := by decide +kernel
theorem dX1_walkFrom_13 : decode cX1_walkFrom 13 = .ok (.getfield 38, 3) := by decide +kernel
theorem dX1_walkFrom_16 : decode cX1_walkFrom 16 = .ok (.iload_n 2, 1) := by decide +kernel
theorem dX1_walkFrom_17 : decode cX1_walkFrom 17 = .ok (.invokevirtual 180, 3) := by decide +kernel
theorem dX1_walkFrom_20 : decode cX1_walkFrom 20 = .ok (.istore_n 2, 1) := by decide +kernel
theorem dX1_walkFrom_21 : decode cX1_walkFrom 21 = .ok (.iinc 3 1, 3) := by decide +kernel
theorem dX1_walkFrom_24 : decode cX1_walkFrom 24 = .ok (.goto (-18), 3) := by decide +kernel
theorem dX1_walkFrom_27 : decode cX1_walkFrom 27 = .ok (.iload_n 2, 1) := by decide +kernel
theorem dX1_walkFrom_28 : decode cX1_walkFrom 28 = .ok (.ireturn, 1) := by decide +kernel
end
section
theorem dX6_init_0 : decode cX6_init 0 = .ok (.aload_n 0, 1) := by decide +kernel
theorem dX6_init_1 : decode cX6_init 1 = .ok (.invokespecial 1, 3) := by decide +kernel
theorem dX6_init_4 : decode cX6_init 4 = .ok (.aload_n 0, 1) := by decide +kernel
theorem dX6_init_5 : decode cX6_init 5 = .ok (.new 7, 3) := by decide +kernel
theorem dX6_init_8 : decode cX6_init 8 = .ok (.dup, 1) := by decide +kernel
theorem dX6_init_9 : decode cX6_init 9 = .ok (.invokespecial 9, 3) := by decide +kernel
theorem dX6_init_12 : decode cX6_init 12 = .ok (.putfield 10, 3) := by decide +kernel
theorem dX6_init_15 : decode cX6_init 15 = .ok (.aload_n 0, 1) := by decide +kernel
theorem dX6_init_16 : decode cX6_init 16 = .ok (.new 7, 3) := by decide +kernel
theorem dX6_init_19 : decode cX6_init 19 = .ok (.dup, 1) := by decide +kernel
theorem dX6_init_20 : decode cX6_init 20 = .ok (.invokespecial 9, 3) := by decide +kernel
theorem dX6_init_23 : decode cX6_init 23 = .ok (.putfield 16, 3) := by decide +kernel
theorem dX6_init_26 : decode cX6_init 26 = .ok (.aload_n 0, 1) := by decide +kernel
theorem dX6_init_27 : decode cX6_init 27 = .ok (.iconst 4, 1) := by decide +kernel
theorem dX6_init_28 : decode cX6_init 28 = .ok (.anewarray 7, 3) := by decide +kernel
theorem dX6_init_31 : decode cX6_init 31 = .ok (.putfield 19, 3) := by decide +kernel
theorem dX6_init_34 : decode cX6_init 34 = .ok (.iconst 0, 1) := by decide +kernel
theorem dX6_init_35 : decode cX6_init 35 = .ok (.istore_n 1, 1) := by decide +kernel
theorem dX6_init_36 : decode cX6_init 36 = .ok (.iload_n 1, 1) := by decide +kernel
theorem dX6_init_37 : decode cX6_init 37 = .ok (.aload_n 0, 1) := by decide +kernel
theorem dX6_init_38 : decode cX6_init 38 = .ok (.getfield 19, 3) := by decide +kernel
theorem dX6_init_41 : decode cX6_init 41 = .ok (.arraylength, 1) := by decide +kernel
theorem dX6_init_42 : decode cX6_init 42 = .ok (.if_icmp .ge 22, 3) := by decide +kernel
theorem dX6_init_45 : decode cX6_init 45 = .ok (.aload_n 0, 1) := by decide +kernel
theorem dX6_init_46 : decode cX6_init 46 = .ok (.getfield 19, 3) := by decide +kernel
theorem dX6_init_49 : decode cX6_init 49 = .ok (.iload_n 1, 1) := by decide +kernel
theorem dX6_init_50 : decode cX6_init 50 = .ok (.new 7, 3) := by decide +kernel
theorem dX6_init_53 : decode cX6_init 53 = .ok (.dup, 1) := by decide +kernel
theorem dX6_init_54 : decode cX6_init 54 = .ok (.invokespecial 9, 3) := by decide +kernel
theorem dX6_init_57 : decode cX6_init 57 = .ok (.aastore, 1) := by decide +kernel
theorem dX6_init_58 : decode cX6_init 58 = .ok (.iinc 1 1, 3) := by decide +kernel
theorem dX6_init_61 : decode cX6_init 61 = .ok (.goto (-25), 3) := by decide +kernel
theorem dX6_init_64 : decode cX6_init 64 = .ok (.aload_n 0, 1) := by decide +kernel
theorem dX6_init_65 : decode cX6_init 65 = .ok (.new 23, 3) := by decide +kernel
theorem dX6_init_68 : decode cX6_init 68 = .ok (.dup, 1) := by decide +kernel
theorem dX6_init_69 : decode cX6_init 69 = .ok (.invokespecial 25, 3) := by decide +kernel
theorem dX6_init_72 : decode cX6_init 72 = .ok (.putfield 26, 3) := by decide +kernel
theorem dX6_init_75 : decode cX6_init 75 = .ok (.aload_n 0, 1) := by decide +kernel
theorem dX6_init_76 : decode cX6_init 76 = .ok (.new 30, 3) := by decide +kernel
theorem dX6_init_79 : decode cX6_init 79 = .ok (.dup, 1) := by decide +kernel
theorem dX6_init_80 : decode cX6_init 80 = .ok (.invokespecial 32, 3) := by decide +kernel
theorem dX6_init_83 : decode cX6_init 83 = .ok (.putfield 33, 3) := by decide +kernel
theorem dX6_init_86 : decode cX6_init 86 = .ok (.return_, 1) := by decide +kernel
theorem dX6_puppet_0 : decode cX6_puppet 0 = .ok (.aload_n 0, 1) := by decide +kernel
theorem dX6_puppet_1 : decode cX6_puppet 1 = .ok (.getfield 16, 3) := by decide +kernel
theorem dX6_puppet_4 : decode cX6_puppet 4 = .ok (.aload_n 0, 1) := by decide +kernel
theorem dX6_puppet_5 : decode cX6_puppet 5 = .ok (.getfield 10, 3) := by decide +kernel
theorem dX6_puppet_8 : decode cX6_puppet 8 = .ok (.invokevirtual 37, 3) := by decide +kernel
theorem dX6_puppet_11 : decode cX6_puppet 11 = .ok (.aload_n 0, 1) := by decide +kernel
theorem dX6_puppet_12 : decode cX6_puppet 12 = .ok (.aload_n 0, 1) := by decide +kernel
theorem dX6_puppet_13 : decode cX6_puppet 13 = .ok (.getfield 16, 3) := by decide +kernel
theorem dX6_puppet_16 : decode cX6_puppet 16 = .ok (.iload_n 1, 1) := by decide +kernel
theorem dX6_puppet_17 : decode cX6_puppet 17 = .ok (.iload_n 2, 1) := by decide +kernel
theorem dX6_puppet_18 : decode cX6_puppet 18 = .ok (.invokevirtual 41, 3) := by decide +kernel
theorem dX6_puppet_21 : decode cX6_puppet 21 = .ok (.invokevirtual 45, 3) := by decide +kernel
theorem dX6_puppet_24 : decode cX6_puppet 24 = .ok (.ireturn, 1) := by decide +kernel
theorem dX6_tie_0 : decode cX6_tie 0 = .ok (.aload_n 0, 1) := by decide +kernel
theorem dX6_tie_1 : decode cX6_tie 1 = .ok (.getfield 16, 3) := by decide +kernel
theorem dX6_tie_4 : decode cX6_tie 4 = .ok (.aload_n 0, 1) := by decide +kernel
theorem dX6_tie_5 : decode cX6_tie 5 = .ok (.getfield 10, 3) := by decide +kernel
theorem dX6_tie_8 : decode cX6_tie 8 = .ok (.invokevirtual 37, 3) := by decide +kernel
theorem dX6_tie_11 : decode cX6_tie 11 = .ok (.aload_n 0, 1) := by decide +kernel
theorem dX6_tie_12 : decode cX6_tie 12 = .ok (.aload_n 0, 1) := by decide +kernel
theorem dX6_tie_13 : decode cX6_tie 13 = .ok (.getfield 16, 3) := by decide +kernel
theorem dX6_tie_16 : decode cX6_tie 16 = .ok (.iload_n 1, 1) := by decide +kernel
theorem dX6_tie_17 : decode cX6_tie 17 = .ok (.iload_n 2, 1) := by decide +kernel
theorem dX6_tie_18 : decode cX6_tie 18 = .ok (.iload_n 3, 1) := by decide +kernel
theorem dX6_tie_19 : decode cX6_tie 19 = .ok (.ifCond .eq 7, 3) := by decide +kernel
theorem dX6_tie_22 : decode cX6_tie 22 = .ok (.iconst 1, 1) := by decide +kernel
theorem dX6_tie_23 : decode cX6_tie 23 = .ok (.goto 4, 3) := by decide +kernel
theorem dX6_tie_26 : decode cX6_tie 26 = .ok (.iconst 0, 1) := by decide +kernel
theorem dX6_tie_27 : decode cX6_tie 27 = .ok (.iload 4, 2) := by decide +kernel
theorem dX6_tie_29 : decode cX6_tie 29 = .ok (.invokevirtual 49, 3) := by decide +kernel
theorem dX6_tie_32 : decode cX6_tie 32 = .ok (.invokevirtual 45, 3) := by decide +kernel
theorem dX6_tie_35 : decode cX6_tie 35 = .ok (.ireturn, 1) := by decide +kernel
theorem dX6_cut_0 : decode cX6_cut 0 = .ok (.aload_n 0, 1) := by decide +kernel
theorem dX6_cut_1 : decode cX6_cut 1 = .ok (.getfield 16, 3) := by decide +kernel
theorem dX6_cut_4 : decode cX6_cut 4 = .ok (.aload_n 0, 1) := by decide +kernel
theorem dX6_cut_5 : decode cX6_cut 5 = .ok (.getfield 10, 3) := by decide +kernel
theorem dX6_cut_8 : decode cX6_cut 8 = .ok (.invokevirtual 37, 3) := by decide +kernel
theorem dX6_cut_11 : decode cX6_cut 11 = .ok (.aload_n 0, 1) := by decide +kernel
theorem dX6_cut_12 : decode cX6_cut 12 = .ok (.aload_n 0, 1) := by decide +kernel
theorem dX6_cut_13 : decode cX6_cut 13 = .ok (.getfield 16, 3) := by decide +kernel
theorem dX6_cut_16 : decode cX6_cut 16 = .ok (.iload_n 1, 1) := by decide +kernel
theorem dX6_cut_17 : decode cX6_cut 17 = .ok (.invokevirtual 53, 3) := by decide +kernel
theorem dX6_cut_20 : decode cX6_cut 20 = .ok (.invokevirtual 45, 3) := by decide +kernel
theorem dX6_cut_23 : decode cX6_cut 23 = .ok (.ireturn, 1) := by decide +kernel
theorem dX6_cutDeal_0 : decode cX6_cutDeal 0 = .ok (.aload_n 0, 1) := by decide +kernel
theorem dX6_cutDeal_1 : decode cX6_cutDeal 1 = .ok (.getfield 16, 3) := by decide +kernel
theorem dX6_cutDeal_4 : decode cX6_cutDeal 4 = .ok (.aload_n 0, 1) := by decide +kernel
theorem dX6_cutDeal_5 : decode cX6_cutDeal 5 = .ok (.getfield 10, 3) := by decide +kernel
theorem dX6_cutDeal_8 : decode cX6_cutDeal 8 = .ok (.invokevirtual 37, 3) := by decide +kernel
theorem dX6_cutDeal_11 : decode cX6_cutDeal 11 = .ok (.aload_n 0, 1) := by decide +kernel
theorem dX6_cutDeal_12 : decode cX6_cutDeal 12 = .ok (.aload_n 0, 1) := by decide +kernel
theorem dX6_cutDeal_13 : decode cX6_cutDeal 13 = .ok (.getfield 16, 3) := by decide +kernel
theorem dX6_cutDeal_16 : decode cX6_cutDeal 16 = .ok (.iload_n 1, 1) := by decide +kernel
theorem dX6_cutDeal_17 : decode cX6_cutDeal 17 = .ok (.invokevirtual 56, 3) := by decide +kernel
theorem dX6_cutDeal_20 : decode cX6_cutDeal 20 = .ok (.invokevirtual 45, 3) := by decide +kernel
theorem dX6_cutDeal_23 : decode cX6_cutDeal 23 = .ok (.ireturn, 1) := by decide +kernel
theorem dX6_pull_0 : decode cX6_pull 0 = .ok (.aload_n 0, 1) := by decide +kernel
theorem dX6_pull_1 : decode cX6_pull 1 = .ok (.getfield 16, 3) := by decide +kernel
theorem dX6_pull_4 : decode cX6_pull 4 = .ok (.aload_n 0, 1) := by decide +kernel
theorem dX6_pull_5 : decode cX6_pull 5 = .ok (.getfield 10, 3) := by decide +kernel
theorem dX6_pull_8 : decode cX6_pull 8 = .ok (.invokevirtual 37, 3) := by decide +kernel
theorem dX6_pull_11 : decode cX6_pull 11 = .ok (.aload_n 0, 1) := by decide +kernel
theorem dX6_pull_12 : decode cX6_pull 12 = .ok (.aload_n 0, 1) := by decide +kernel
theorem dX6_pull_13 : decode cX6_pull 13 = .ok (.getfield 16, 3) := by decide +kernel
theorem dX6_pull_16 : decode cX6_pull 16 = .ok (.iload_n 1, 1) := by decide +kernel
theorem dX6_pull_17 : decode cX6_pull 17 = .ok (.iload_n 2, 1) := by decide +kernel
theorem dX6_pull_18 : decode cX6_pull 18 = .ok (.invokevirtual 59, 3) := by decide +kernel
theorem dX6_pull_21 : decode cX6_pull 21 = .ok (.invokevirtual 45, 3) := by decide +kernel
theorem dX6_pull_24 : decode cX6_pull 24 = .ok (.ireturn, 1) := by decide +kernel
theorem dX6_release_0 : decode cX6_release 0 = .ok (.aload_n 0, 1) := by decide +kernel
theorem dX6_release_1 : decode cX6_release 1 = .ok (.getfield 16, 3) := by decide +kernel
theorem dX6_release_4 : decode cX6_release 4 = .ok (.aload_n 0, 1) := by decide +kernel
theorem dX6_release_5 : decode cX6_release 5 = .ok (.getfield 10, 3) := by decide +kernel
theorem dX6_release_8 : decode cX6_release 8 = .ok (.invokevirtual 37, 3) := by decide +kernel
theorem dX6_release_11 : decode cX6_release 11 = .ok (.aload_n 0, 1) := by decide +kernel
theorem dX6_release_12 : decode cX6_release 12 = .ok (.aload_n 0, 1) := by decide +kernel
theorem dX6_release_13 : decode cX6_release 13 = .ok (.getfield 16, 3) := by decide +kernel
theorem dX6_release_16 : decode cX6_release 16 = .ok (.iload_n 1, 1) := by decide +kernel
theorem dX6_release_17 : decode cX6_release 17 = .ok (.invokevirtual 62, 3) := by decide +kernel
theorem dX6_release_20 : decode cX6_release 20 = .ok (.invokevirtual 45, 3) := by decide +kernel
theorem dX6_release_23 : decode cX6_release 23 = .ok (.ireturn, 1) := by decide +kernel
theorem dX6_session_0 : decode cX6_session 0 = .ok (.aload_n 0, 1) := by decide +kernel
theorem dX6_session_1 : decode cX6_session 1 = .ok (.getfield 16, 3) := by decide +kernel
theorem dX6_session_4 : decode cX6_session 4 = .ok (.aload_n 0, 1) := by decide +kernel
theorem dX6_session_5 : decode cX6_session 5 = .ok (.getfield 10, 3) := by decide +kernel
theorem dX6_session_8 : decode cX6_session 8 = .ok (.invokevirtual 37, 3) := by decide +kernel
theorem dX6_session_11 : decode cX6_session 11 = .ok (.aload_n 0, 1) := by decide +kernel
theorem dX6_session_12 : decode cX6_session 12 = .ok (.aload_n 0, 1) := by decide +kernel
theorem dX6_session_13 : decode cX6_session 13 = .ok (.getfield 16, 3) := by decide +kernel
theorem dX6_session_16 : decode cX6_session 16 = .ok (.invokevirtual 65, 3) := by decide +kernel
theorem dX6_session_19 : decode cX6_session 19 = .ok (.invokevirtual 45, 3) := by decide +kernel
theorem dX6_session_22 : decode cX6_session 22 = .ok (.ireturn, 1) := by decide +kernel
theorem dX6_set_0 : decode cX6_set 0 = .ok (.iload_n 1, 1) := by decide +kernel
theorem dX6_set_1 : decode cX6_set 1 = .ok (.ifCond .eq 6, 3) := by decide +kernel
theorem dX6_set_4 : decode cX6_set 4 = .ok (.ldc 69, 2) := by decide +kernel
theorem dX6_set_6 : decode cX6_set 6 = .ok (.ireturn, 1) := by decide +kernel
theorem dX6_set_7 : decode cX6_set 7 = .ok (.aload_n 0, 1) := by decide +kernel
theorem dX6_set_8 : decode cX6_set 8 = .ok (.getfield 16, 3) := by decide +kernel
theorem dX6_set_11 : decode cX6_set 11 = .ok (.aload_n 0, 1) := by decide +kernel
theorem dX6_set_12 : decode cX6_set 12 = .ok (.getfield 10, 3) := by decide +kernel
theorem dX6_set_15 : decode cX6_set 15 = .ok (.invokevirtual 37, 3) := by decide +kernel
theorem dX6_set_18 : decode cX6_set 18 = .ok (.aload_n 0, 1) := by decide +kernel
theorem dX6_set_19 : decode cX6_set 19 = .ok (.aload_n 0, 1) := by decide +kernel
theorem dX6_set_20 : decode cX6_set 20 = .ok (.getfield 16, 3) := by decide +kernel
theorem dX6_set_23 : decode cX6_set 23 = .ok (.iload_n 2, 1) := by decide +kernel
theorem dX6_set_24 : decode cX6_set 24 = .ok (.invokevirtual 70, 3) := by decide +kernel
theorem dX6_set_27 : decode cX6_set 27 = .ok (.invokevirtual 45, 3) := by decide +kernel
theorem dX6_set_30 : decode cX6_set 30 = .ok (.ireturn, 1) := by decide +kernel
theorem dX6_puppetOf_0 : decode cX6_puppetOf 0 = .ok (.aload_n 0, 1) := by decide +kernel
theorem dX6_puppetOf_1 : decode cX6_puppetOf 1 = .ok (.getfield 10, 3) := by decide +kernel
theorem dX6_puppetOf_4 : decode cX6_puppetOf 4 = .ok (.iload_n 1, 1) := by decide +kernel
theorem dX6_puppetOf_5 : decode cX6_puppetOf 5 = .ok (.invokevirtual 73, 3) := by decide +kernel
theorem dX6_puppetOf_8 : decode cX6_puppetOf 8 = .ok (.ifCond .ne 6, 3) := by decide +kernel
theorem dX6_puppetOf_11 : decode cX6_puppetOf 11 = .ok (.ldc 69, 2) := by decide +kernel
theorem dX6_puppetOf_13 : decode cX6_puppetOf 13 = .ok (.ireturn, 1) := by decide +kernel
theorem dX6_puppetOf_14 : decode cX6_puppetOf 14 = .ok (.aload_n 0, 1) := by decide +kernel
theorem dX6_puppetOf_15 : decode cX6_puppetOf 15 = .ok (.getfield 10, 3) := by decide +kernel
theorem dX6_puppetOf_18 : decode cX6_puppetOf 18 = .ok (.getfield 77, 3) := by decide +kernel
theorem dX6_puppetOf_21 : decode cX6_puppetOf 21 = .ok (.iload_n 1, 1) := by decide +kernel
theorem dX6_puppetOf_22 : decode cX6_puppetOf 22 = .ok (.invokevirtual 81, 3) := by decide +kernel
theorem dX6_puppetOf_25 : decode cX6_puppetOf 25 = .ok (.istore_n 3, 1) := by decide +kernel
theorem dX6_puppetOf_26 : decode cX6_puppetOf 26 = .ok (.iload_n 2, 1) := by decide +kernel
theorem dX6_puppetOf_27 : decode cX6_puppetOf 27 = .ok (.tableswitch 164 0 8 #[49, 61, 73, 101, 113, 115, 127, 139, 148], 49) := by decide +kernel
theorem dX6_puppetOf_76 : decode cX6_puppetOf 76 = .ok (.aload_n 0, 1) := by decide +kernel
theorem dX6_puppetOf_77 : decode cX6_puppetOf 77 = .ok (.getfield 10, 3) := by decide +kernel
theorem dX6_puppetOf_80 : decode cX6_puppetOf 80 = .ok (.getfield 86, 3) := by decide +kernel
theorem dX6_puppetOf_83 : decode cX6_puppetOf 83 = .ok (.iload_n 1, 1) := by decide +kernel
theorem dX6_puppetOf_84 : decode cX6_puppetOf 84 = .ok (.invokevirtual 81, 3) := by decide +kernel
theorem dX6_puppetOf_87 : decode cX6_puppetOf 87 = .ok (.ireturn, 1) := by decide +kernel
theorem dX6_puppetOf_88 : decode cX6_puppetOf 88 = .ok (.aload_n 0, 1) := by decide +kernel
theorem dX6_puppetOf_89 : decode cX6_puppetOf 89 = .ok (.getfield 10, 3) := by decide +kernel
theorem dX6_puppetOf_92 : decode cX6_puppetOf 92 = .ok (.getfield 89, 3) := by decide +kernel
theorem dX6_puppetOf_95 : decode cX6_puppetOf 95 = .ok (.iload_n 1, 1) := by decide +kernel
theorem dX6_puppetOf_96 : decode cX6_puppetOf 96 = .ok (.invokevirtual 81, 3) := by decide +kernel
theorem dX6_puppetOf_99 : decode cX6_puppetOf 99 = .ok (.ireturn, 1) := by decide +kernel
theorem dX6_puppetOf_100 : decode cX6_puppetOf 100 = .ok (.aload_n 0, 1) := by decide +kernel
theorem dX6_puppetOf_101 : decode cX6_puppetOf 101 = .ok (.getfield 10, 3) := by decide +kernel
theorem dX6_puppetOf_104 : decode cX6_puppetOf 104 = .ok (.iload_n 1, 1) := by decide +kernel
theorem dX6_puppetOf_105 : decode cX6_puppetOf 105 = .ok (.invokevirtual 92, 3) := by decide +kernel
theorem dX6_puppetOf_108 : decode cX6_puppetOf 108 = .ok (.ifCond .eq 17, 3) := by decide +kernel
theorem dX6_puppetOf_111 : decode cX6_puppetOf 111 = .ok (.aload_n 0, 1) := by decide +kernel
theorem dX6_puppetOf_112 : decode cX6_puppetOf 112 = .ok (.getfield 10, 3) := by decide +kernel
theorem dX6_puppetOf_115 : decode cX6_puppetOf 115 = .ok (.getfield 95, 3) := by decide +kernel
theorem dX6_puppetOf_118 : decode cX6_puppetOf 118 = .ok (.iload_n 1, 1) := by decide +kernel
theorem dX6_puppetOf_119 : decode cX6_puppetOf 119 = .ok (.invokevirtual 81, 3) := by decide +kernel
theorem dX6_puppetOf_122 : decode cX6_puppetOf 122 = .ok (.goto 5, 3) := by decide +kernel
theorem dX6_puppetOf_125 : decode cX6_puppetOf 125 = .ok (.ldc 98, 2) := by decide +kernel
theorem dX6_puppetOf_127 : decode cX6_puppetOf 127 = .ok (.ireturn, 1) := by decide +kernel
theorem dX6_puppetOf_128 : decode cX6_puppetOf 128 = .ok (.aload_n 0, 1) := by decide +kernel
theorem dX6_puppetOf_129 : decode cX6_puppetOf 129 = .ok (.getfield 10, 3) := by decide +kernel
theorem dX6_puppetOf_132 : decode cX6_puppetOf 132 = .ok (.getfield 99, 3) := by decide +kernel
theorem dX6_puppetOf_135 : decode cX6_puppetOf 135 = .ok (.iload_n 1, 1) := by decide +kernel
theorem dX6_puppetOf_136 : decode cX6_puppetOf 136 = .ok (.invokevirtual 81, 3) := by decide +kernel
theorem dX6_puppetOf_139 : decode cX6_puppetOf 139 = .ok (.ireturn, 1) := by decide +kernel
theorem dX6_puppetOf_140 : decode cX6_puppetOf 140 = .ok (.iload_n 3, 1) := by decide +kernel
theorem dX6_puppetOf_141 : decode cX6_puppetOf 141 = .ok (.ireturn, 1) := by decide +kernel
theorem dX6_puppetOf_142 : decode cX6_puppetOf 142 = .ok (.aload_n 0, 1) := by decide +kernel
theorem dX6_puppetOf_143 : decode cX6_puppetOf 143 = .ok (.getfield 10, 3) := by decide +kernel
theorem dX6_puppetOf_146 : decode cX6_puppetOf 146 = .ok (.getfield 102, 3) := by decide +kernel
theorem dX6_puppetOf_149 : decode cX6_puppetOf 149 = .ok (.iload_n 1, 1) := by decide +kernel
theorem dX6_puppetOf_150 : decode cX6_puppetOf 150 = .ok (.invokevirtual 81, 3) := by decide +kernel
theorem dX6_puppetOf_153 : decode cX6_puppetOf 153 = .ok (.ireturn, 1) := by decide +kernel
theorem dX6_puppetOf_154 : decode cX6_puppetOf 154 = .ok (.aload_n 0, 1) := by decide +kernel
theorem dX6_puppetOf_155 : decode cX6_puppetOf 155 = .ok (.getfield 10, 3) := by decide +kernel
theorem dX6_puppetOf_158 : decode cX6_puppetOf 158 = .ok (.getfield 105, 3) := by decide +kernel
theorem dX6_puppetOf_161 : decode cX6_puppetOf 161 = .ok (.iload_n 1, 1) := by decide +kernel
theorem dX6_puppetOf_162 : decode cX6_puppetOf 162 = .ok (.invokevirtual 109, 3) := by decide +kernel
theorem dX6_puppetOf_165 : decode cX6_puppetOf 165 = .ok (.ireturn, 1) := by decide +kernel
theorem dX6_puppetOf_166 : decode cX6_puppetOf 166 = .ok (.aload_n 0, 1) := by decide +kernel
theorem dX6_puppetOf_167 : decode cX6_puppetOf 167 = .ok (.getfield 10, 3) := by decide +kernel
theorem dX6_puppetOf_170 : decode cX6_puppetOf 170 = .ok (.iload_n 3, 1) := by decide +kernel
theorem dX6_puppetOf_171 : decode cX6_puppetOf 171 = .ok (.invokevirtual 114, 3) := by decide +kernel
theorem dX6_puppetOf_174 : decode cX6_puppetOf 174 = .ok (.ireturn, 1) := by decide +kernel
theorem dX6_puppetOf_175 : decode cX6_puppetOf 175 = .ok (.aload_n 0, 1) := by decide +kernel
theorem dX6_puppetOf_176 : decode cX6_puppetOf 176 = .ok (.getfield 10, 3) := by decide +kernel
theorem dX6_puppetOf_179 : decode cX6_puppetOf 179 = .ok (.aload_n 0, 1) := by decide +kernel
theorem dX6_puppetOf_180 : decode cX6_puppetOf 180 = .ok (.getfield 10, 3) := by decide +kernel
theorem dX6_puppetOf_183 : decode cX6_puppetOf 183 = .ok (.iload_n 3, 1) := by decide +kernel
theorem dX6_puppetOf_184 : decode cX6_puppetOf 184 = .ok (.invokevirtual 114, 3) := by decide +kernel
theorem dX6_puppetOf_187 : decode cX6_puppetOf 187 = .ok (.invokevirtual 117, 3) := by decide +kernel
theorem dX6_puppetOf_190 : decode cX6_puppetOf 190 = .ok (.ireturn, 1) := by decide +kernel
theorem dX6_puppetOf_191 : decode cX6_puppetOf 191 = .ok (.ldc 69, 2) := by decide +kernel
theorem dX6_puppetOf_193 : decode cX6_puppetOf 193 = .ok (.ireturn, 1) := by decide +kernel
theorem dX6_stringOf_0 : decode cX6_stringOf 0 = .ok (.aload_n 0, 1) := by decide +kernel
theorem dX6_stringOf_1 : decode cX6_stringOf 1 = .ok (.getfield 10, 3) := by decide +kernel
theorem dX6_stringOf_4 : decode cX6_stringOf 4 = .ok (.getfield 105, 3) := by decide +kernel
theorem dX6_stringOf_7 : decode cX6_stringOf 7 = .ok (.iload_n 1, 1) := by decide +kernel
theorem dX6_stringOf_8 : decode cX6_stringOf 8 = .ok (.invokevirtual 120, 3) := by decide +kernel
theorem dX6_stringOf_11 : decode cX6_stringOf 11 = .ok (.ifCond .ne 6, 3) := by decide +kernel
theorem dX6_stringOf_14 : decode cX6_stringOf 14 = .ok (.ldc 69, 2) := by decide +kernel
theorem dX6_stringOf_16 : decode cX6_stringOf 16 = .ok (.ireturn, 1) := by decide +kernel
theorem dX6_stringOf_17 : decode cX6_stringOf 17 = .ok (.iload_n 2, 1) := by decide +kernel
theorem dX6_stringOf_18 : decode cX6_stringOf 18 = .ok (.tableswitch 108 0 4 #[34, 49, 64, 79, 94], 34) := by decide +kernel
theorem dX6_stringOf_52 : decode cX6_stringOf 52 = .ok (.aload_n 0, 1) := by decide +kernel
theorem dX6_stringOf_53 : decode cX6_stringOf 53 = .ok (.getfield 10, 3) := by decide +kernel
theorem dX6_stringOf_56 : decode cX6_stringOf 56 = .ok (.getfield 105, 3) := by decide +kernel
theorem dX6_stringOf_59 : decode cX6_stringOf 59 = .ok (.getfield 123, 3) := by decide +kernel
theorem dX6_stringOf_62 : decode cX6_stringOf 62 = .ok (.iload_n 1, 1) := by decide +kernel
theorem dX6_stringOf_63 : decode cX6_stringOf 63 = .ok (.invokevirtual 81, 3) := by decide +kernel
theorem dX6_stringOf_66 : decode cX6_stringOf 66 = .ok (.ireturn, 1) := by decide +kernel
theorem dX6_stringOf_67 : decode cX6_stringOf 67 = .ok (.aload_n 0, 1) := by decide +kernel
theorem dX6_stringOf_68 : decode cX6_stringOf 68 = .ok (.getfield 10, 3) := by decide +kernel
theorem dX6_stringOf_71 : decode cX6_stringOf 71 = .ok (.getfield 105, 3) := by decide +kernel
theorem dX6_stringOf_74 : decode cX6_stringOf 74 = .ok (.getfield 126, 3) := by decide +kernel
theorem dX6_stringOf_77 : decode cX6_stringOf 77 = .ok (.iload_n 1, 1) := by decide +kernel
theorem dX6_stringOf_78 : decode cX6_stringOf 78 = .ok (.invokevirtual 81, 3) := by decide +kernel
theorem dX6_stringOf_81 : decode cX6_stringOf 81 = .ok (.ireturn, 1) := by decide +kernel
theorem dX6_stringOf_82 : decode cX6_stringOf 82 = .ok (.aload_n 0, 1) := by decide +kernel
theorem dX6_stringOf_83 : decode cX6_stringOf 83 = .ok (.getfield 10, 3) := by decide +kernel
theorem dX6_stringOf_86 : decode cX6_stringOf 86 = .ok (.getfield 105, 3) := by decide +kernel
theorem dX6_stringOf_89 : decode cX6_stringOf 89 = .ok (.getfield 129, 3) := by decide +kernel
theorem dX6_stringOf_92 : decode cX6_stringOf 92 = .ok (.iload_n 1, 1) := by decide +kernel
theorem dX6_stringOf_93 : decode cX6_stringOf 93 = .ok (.invokevirtual 81, 3) := by decide +kernel
theorem dX6_stringOf_96 : decode cX6_stringOf 96 = .ok (.ireturn, 1) := by decide +kernel
theorem dX6_stringOf_97 : decode cX6_stringOf 97 = .ok (.aload_n 0, 1) := by decide +kernel
theorem dX6_stringOf_98 : decode cX6_stringOf 98 = .ok (.getfield 10, 3) := by decide +kernel
theorem dX6_stringOf_101 : decode cX6_stringOf 101 = .ok (.getfield 105, 3) := by decide +kernel
theorem dX6_stringOf_104 : decode cX6_stringOf 104 = .ok (.getfield 132, 3) := by decide +kernel
theorem dX6_stringOf_107 : decode cX6_stringOf 107 = .ok (.iload_n 1, 1) := by decide +kernel
theorem dX6_stringOf_108 : decode cX6_stringOf 108 = .ok (.invokevirtual 81, 3) := by decide +kernel
theorem dX6_stringOf_111 : decode cX6_stringOf 111 = .ok (.ireturn, 1) := by decide +kernel
theorem dX6_stringOf_112 : decode cX6_stringOf 112 = .ok (.aload_n 0, 1) := by decide +kernel
theorem dX6_stringOf_113 : decode cX6_stringOf 113 = .ok (.iload_n 1, 1) := by decide +kernel
theorem dX6_stringOf_114 : decode cX6_stringOf 114 = .ok (.invokevirtual 135, 3) := by decide +kernel
theorem dX6_stringOf_117 : decode cX6_stringOf 117 = .ok (.ifCond .eq 7, 3) := by decide +kernel
theorem dX6_stringOf_120 : decode cX6_stringOf 120 = .ok (.iconst 1, 1) := by decide +kernel
theorem dX6_stringOf_121 : decode cX6_stringOf 121 = .ok (.goto 4, 3) := by decide +kernel
theorem dX6_stringOf_124 : decode cX6_stringOf 124 = .ok (.iconst 0, 1) := by decide +kernel
theorem dX6_stringOf_125 : decode cX6_stringOf 125 = .ok (.ireturn, 1) := by decide +kernel
theorem dX6_stringOf_126 : decode cX6_stringOf 126 = .ok (.ldc 69, 2) := by decide +kernel
theorem dX6_stringOf_128 : decode cX6_stringOf 128 = .ok (.ireturn, 1) := by decide +kernel
theorem dX6_hangTogetherWithout_0 : decode cX6_hangTogetherWithout 0 = .ok (.aload_n 0, 1) := by decide +kernel
theorem dX6_hangTogetherWithout_1 : decode cX6_hangTogetherWithout 1 = .ok (.getfield 16, 3) := by decide +kernel
theorem dX6_hangTogetherWithout_4 : decode cX6_hangTogetherWithout 4 = .ok (.aload_n 0, 1) := by decide +kernel
theorem dX6_hangTogetherWithout_5 : decode cX6_hangTogetherWithout 5 = .ok (.getfield 10, 3) := by decide +kernel
theorem dX6_hangTogetherWithout_8 : decode cX6_hangTogetherWithout 8 = .ok (.invokevirtual 37, 3) := by decide +kernel
theorem dX6_hangTogetherWithout_11 : decode cX6_hangTogetherWithout 11 = .ok (.aload_n 0, 1) := by decide +kernel
theorem dX6_hangTogetherWithout_12 : decode cX6_hangTogetherWithout 12 = .ok (.getfield 16, 3) := by decide +kernel
theorem dX6_hangTogetherWithout_15 : decode cX6_hangTogetherWithout 15 = .ok (.iload_n 1, 1) := by decide +kernel
theorem dX6_hangTogetherWithout_16 : decode cX6_hangTogetherWithout 16 = .ok (.invokevirtual 53, 3) := by decide +kernel
theorem dX6_hangTogetherWithout_19 : decode cX6_hangTogetherWithout 19 = .ok (.pop, 1) := by decide +kernel
theorem dX6_hangTogetherWithout_20 : decode cX6_hangTogetherWithout 20 = .ok (.aload_n 0, 1) := by decide +kernel
theorem dX6_hangTogetherWithout_21 : decode cX6_hangTogetherWithout 21 = .ok (.getfield 16, 3) := by decide +kernel
theorem dX6_hangTogetherWithout_24 : decode cX6_hangTogetherWithout 24 = .ok (.aload_n 0, 1) := by decide +kernel
theorem dX6_hangTogetherWithout_25 : decode cX6_hangTogetherWithout 25 = .ok (.getfield 10, 3) := by decide +kernel
theorem dX6_hangTogetherWithout_28 : decode cX6_hangTogetherWithout 28 = .ok (.getfield 105, 3) := by decide +kernel
theorem dX6_hangTogetherWithout_31 : decode cX6_hangTogetherWithout 31 = .ok (.getfield 123, 3) := by decide +kernel
theorem dX6_hangTogetherWithout_34 : decode cX6_hangTogetherWithout 34 = .ok (.iload_n 1, 1) := by decide +kernel
theorem dX6_hangTogetherWithout_35 : decode cX6_hangTogetherWithout 35 = .ok (.invokevirtual 81, 3) := by decide +kernel
theorem dX6_hangTogetherWithout_38 : decode cX6_hangTogetherWithout 38 = .ok (.aload_n 0, 1) := by decide +kernel
theorem dX6_hangTogetherWithout_39 : decode cX6_hangTogetherWithout 39 = .ok (.getfield 10, 3) := by decide +kernel
theorem dX6_hangTogetherWithout_42 : decode cX6_hangTogetherWithout 42 = .ok (.getfield 105, 3) := by decide +kernel
theorem dX6_hangTogetherWithout_45 : decode cX6_hangTogetherWithout 45 = .ok (.getfield 126, 3) := by decide +kernel
theorem dX6_hangTogetherWithout_48 : decode cX6_hangTogetherWithout 48 = .ok (.iload_n 1, 1) := by decide +kernel
theorem dX6_hangTogetherWithout_49 : decode cX6_hangTogetherWithout 49 = .ok (.invokevirtual 81, 3) := by decide +kernel
theorem dX6_hangTogetherWithout_52 : decode cX6_hangTogetherWithout 52 = .ok (.invokevirtual 138, 3) := by decide +kernel
theorem dX6_hangTogetherWithout_55 : decode cX6_hangTogetherWithout 55 = .ok (.ireturn, 1) := by decide +kernel
theorem dX6_between_0 : decode cX6_between 0 = .ok (.aload_n 0, 1) := by decide +kernel
theorem dX6_between_1 : decode cX6_between 1 = .ok (.getfield 10, 3) := by decide +kernel
theorem dX6_between_4 : decode cX6_between 4 = .ok (.iload_n 1, 1) := by decide +kernel
theorem dX6_between_5 : decode cX6_between 5 = .ok (.invokevirtual 73, 3) := by decide +kernel
theorem dX6_between_8 : decode cX6_between 8 = .ok (.ifCond .eq 14, 3) := by decide +kernel
theorem dX6_between_11 : decode cX6_between 11 = .ok (.aload_n 0, 1) := by decide +kernel
theorem dX6_between_12 : decode cX6_between 12 = .ok (.getfield 10, 3) := by decide +kernel
theorem dX6_between_15 : decode cX6_between 15 = .ok (.iload_n 2, 1) := by decide +kernel
theorem dX6_between_16 : decode cX6_between 16 = .ok (.invokevirtual 73, 3) := by decide +kernel
theorem dX6_between_19 : decode cX6_between 19 = .ok (.ifCond .ne 6, 3) := by decide +kernel
theorem dX6_between_22 : decode cX6_between 22 = .ok (.ldc 69, 2) := by decide +kernel
theorem dX6_between_24 : decode cX6_between 24 = .ok (.ireturn, 1) := by decide +kernel
theorem dX6_between_25 : decode cX6_between 25 = .ok (.iconst 1, 1) := by decide +kernel
theorem dX6_between_26 : decode cX6_between 26 = .ok (.iload_n 1, 1) := by decide +kernel
theorem dX6_between_27 : decode cX6_between 27 = .ok (.ishl, 1) := by decide +kernel
theorem dX6_between_28 : decode cX6_between 28 = .ok (.istore_n 3, 1) := by decide +kernel
theorem dX6_between_29 : decode cX6_between 29 = .ok (.iconst 0, 1) := by decide +kernel
theorem dX6_between_30 : decode cX6_between 30 = .ok (.istore 4, 2) := by decide +kernel
theorem dX6_between_32 : decode cX6_between 32 = .ok (.iload 4, 2) := by decide +kernel
theorem dX6_between_34 : decode cX6_between 34 = .ok (.bipush 12, 2) := by decide +kernel
theorem dX6_between_36 : decode cX6_between 36 = .ok (.if_icmp .ge 32, 3) := by decide +kernel
theorem dX6_between_39 : decode cX6_between 39 = .ok (.iload_n 3, 1) := by decide +kernel
theorem dX6_between_40 : decode cX6_between 40 = .ok (.iload_n 2, 1) := by decide +kernel
theorem dX6_between_41 : decode cX6_between 41 = .ok (.invokestatic 142, 3) := by decide +kernel
theorem dX6_between_44 : decode cX6_between 44 = .ok (.ifCond .eq 6, 3) := by decide +kernel
theorem dX6_between_47 : decode cX6_between 47 = .ok (.iload 4, 2) := by decide +kernel
theorem dX6_between_49 : decode cX6_between 49 = .ok (.ireturn, 1) := by decide +kernel
theorem dX6_between_50 : decode cX6_between 50 = .ok (.aload_n 0, 1) := by decide +kernel
theorem dX6_between_51 : decode cX6_between 51 = .ok (.getfield 10, 3) := by decide +kernel
theorem dX6_between_54 : decode cX6_between 54 = .ok (.getfield 105, 3) := by decide +kernel
theorem dX6_between_57 : decode cX6_between 57 = .ok (.iload_n 3, 1) := by decide +kernel
theorem dX6_between_58 : decode cX6_between 58 = .ok (.invokevirtual 145, 3) := by decide +kernel
theorem dX6_between_61 : decode cX6_between 61 = .ok (.istore_n 3, 1) := by decide +kernel
theorem dX6_between_62 : decode cX6_between 62 = .ok (.iinc 4 1, 3) := by decide +kernel
theorem dX6_between_65 : decode cX6_between 65 = .ok (.goto (-33), 3) := by decide +kernel
theorem dX6_between_68 : decode cX6_between 68 = .ok (.ldc 98, 2) := by decide +kernel
theorem dX6_between_70 : decode cX6_between 70 = .ok (.ireturn, 1) := by decide +kernel
theorem dX6_book_0 : decode cX6_book 0 = .ok (.iload_n 1, 1) := by decide +kernel
theorem dX6_book_1 : decode cX6_book 1 = .ok (.ifCond .lt 12, 3) := by decide +kernel
theorem dX6_book_4 : decode cX6_book 4 = .ok (.iload_n 2, 1) := by decide +kernel
theorem dX6_book_5 : decode cX6_book 5 = .ok (.iconst 0, 1) := by decide +kernel
theorem dX6_book_6 : decode cX6_book 6 = .ok (.iconst 3, 1) := by decide +kernel
theorem dX6_book_7 : decode cX6_book 7 = .ok (.invokestatic 148, 3) := by decide +kernel
theorem dX6_book_10 : decode cX6_book 10 = .ok (.ifCond .ne 6, 3) := by decide +kernel
theorem dX6_book_13 : decode cX6_book 13 = .ok (.ldc 69, 2) := by decide +kernel
theorem dX6_book_15 : decode cX6_book 15 = .ok (.ireturn, 1) := by decide +kernel
theorem dX6_book_16 : decode cX6_book 16 = .ok (.iload_n 1, 1) := by decide +kernel
theorem dX6_book_17 : decode cX6_book 17 = .ok (.aload_n 0, 1) := by decide +kernel
theorem dX6_book_18 : decode cX6_book 18 = .ok (.getfield 10, 3) := by decide +kernel
theorem dX6_book_21 : decode cX6_book 21 = .ok (.getfield 152, 3) := by decide +kernel
theorem dX6_book_24 : decode cX6_book 24 = .ok (.invokevirtual 156, 3) := by decide +kernel
theorem dX6_book_27 : decode cX6_book 27 = .ok (.if_icmp .ge 18, 3) := by decide +kernel
theorem dX6_book_30 : decode cX6_book 30 = .ok (.aload_n 0, 1) := by decide +kernel
theorem dX6_book_31 : decode cX6_book 31 = .ok (.getfield 10, 3) := by decide +kernel
theorem dX6_book_34 : decode cX6_book 34 = .ok (.getfield 152, 3) := by decide +kernel
theorem dX6_book_37 : decode cX6_book 37 = .ok (.iload_n 1, 1) := by decide +kernel
theorem dX6_book_38 : decode cX6_book 38 = .ok (.iload_n 2, 1) := by decide +kernel
theorem dX6_book_39 : decode cX6_book 39 = .ok (.invokevirtual 161, 3) := by decide +kernel
theorem dX6_book_42 : decode cX6_book 42 = .ok (.goto 5, 3) := by decide +kernel
theorem dX6_book_45 : decode cX6_book 45 = .ok (.ldc 98, 2) := by decide +kernel
theorem dX6_book_47 : decode cX6_book 47 = .ok (.ireturn, 1) := by decide +kernel
theorem dX6_whyTie_0 : decode cX6_whyTie 0 = .ok (.aload_n 0, 1) := by decide +kernel
theorem dX6_whyTie_1 : decode cX6_whyTie 1 = .ok (.getfield 10, 3) := by decide +kernel
theorem dX6_whyTie_4 : decode cX6_whyTie 4 = .ok (.iload_n 1, 1) := by decide +kernel
theorem dX6_whyTie_5 : decode cX6_whyTie 5 = .ok (.iload_n 2, 1) := by decide +kernel
theorem dX6_whyTie_6 : decode cX6_whyTie 6 = .ok (.invokevirtual 164, 3) := by decide +kernel
theorem dX6_whyTie_9 : decode cX6_whyTie 9 = .ok (.ifCond .ne 6, 3) := by decide +kernel
theorem dX6_whyTie_12 : decode cX6_whyTie 12 = .ok (.ldc 69, 2) := by decide +kernel
theorem dX6_whyTie_14 : decode cX6_whyTie 14 = .ok (.ireturn, 1) := by decide +kernel
theorem dX6_whyTie_15 : decode cX6_whyTie 15 = .ok (.aload_n 0, 1) := by decide +kernel
theorem dX6_whyTie_16 : decode cX6_whyTie 16 = .ok (.getfield 10, 3) := by decide +kernel
theorem dX6_whyTie_19 : decode cX6_whyTie 19 = .ok (.iload_n 1, 1) := by decide +kernel
theorem dX6_whyTie_20 : decode cX6_whyTie 20 = .ok (.iload_n 2, 1) := by decide +kernel
theorem dX6_whyTie_21 : decode cX6_whyTie 21 = .ok (.iload_n 3, 1) := by decide +kernel
theorem dX6_whyTie_22 : decode cX6_whyTie 22 = .ok (.ifCond .eq 7, 3) := by decide +kernel
theorem dX6_whyTie_25 : decode cX6_whyTie 25 = .ok (.iconst 1, 1) := by decide +kernel
theorem dX6_whyTie_26 : decode cX6_whyTie 26 = .ok (.goto 4, 3) := by decide +kernel
theorem dX6_whyTie_29 : decode cX6_whyTie 29 = .ok (.iconst 0, 1) := by decide +kernel
theorem dX6_whyTie_30 : decode cX6_whyTie 30 = .ok (.invokevirtual 167, 3) := by decide +kernel
theorem dX6_whyTie_33 : decode cX6_whyTie 33 = .ok (.ireturn, 1) := by decide +kernel
theorem dX6_whyPull_0 : decode cX6_whyPull 0 = .ok (.aload_n 0, 1) := by decide +kernel
theorem dX6_whyPull_1 : decode cX6_whyPull 1 = .ok (.getfield 10, 3) := by decide +kernel
theorem dX6_whyPull_4 : decode cX6_whyPull 4 = .ok (.iload_n 1, 1) := by decide +kernel
theorem dX6_whyPull_5 : decode cX6_whyPull 5 = .ok (.invokevirtual 73, 3) := by decide +kernel
theorem dX6_whyPull_8 : decode cX6_whyPull 8 = .ok (.ifCond .eq 12, 3) := by decide +kernel
theorem dX6_whyPull_11 : decode cX6_whyPull 11 = .ok (.iload_n 2, 1) := by decide +kernel
theorem dX6_whyPull_12 : decode cX6_whyPull 12 = .ok (.iconst 0, 1) := by decide +kernel
theorem dX6_whyPull_13 : decode cX6_whyPull 13 = .ok (.iconst 1, 1) := by decide +kernel
theorem dX6_whyPull_14 : decode cX6_whyPull 14 = .ok (.invokestatic 148, 3) := by decide +kernel
theorem dX6_whyPull_17 : decode cX6_whyPull 17 = .ok (.ifCond .ne 6, 3) := by decide +kernel
theorem dX6_whyPull_20 : decode cX6_whyPull 20 = .ok (.ldc 69, 2) := by decide +kernel
theorem dX6_whyPull_22 : decode cX6_whyPull 22 = .ok (.ireturn, 1) := by decide +kernel
theorem dX6_whyPull_23 : decode cX6_whyPull 23 = .ok (.aload_n 0, 1) := by decide +kernel
theorem dX6_whyPull_24 : decode cX6_whyPull 24 = .ok (.getfield 10, 3) := by decide +kernel
theorem dX6_whyPull_27 : decode cX6_whyPull 27 = .ok (.iload_n 1, 1) := by decide +kernel
theorem dX6_whyPull_28 : decode cX6_whyPull 28 = .ok (.iload_n 2, 1) := by decide +kernel
theorem dX6_whyPull_29 : decode cX6_whyPull 29 = .ok (.invokevirtual 171, 3) := by decide +kernel
theorem dX6_whyPull_32 : decode cX6_whyPull 32 = .ok (.ireturn, 1) := by decide +kernel
theorem dX6_bestPull_0 : decode cX6_bestPull 0 = .ok (.iload_n 1, 1) := by decide +kernel
theorem dX6_bestPull_1 : decode cX6_bestPull 1 = .ok (.iconst 0, 1) := by decide +kernel
theorem dX6_bestPull_2 : decode cX6_bestPull 2 = .ok (.iconst 1, 1) := by decide +kernel
theorem dX6_bestPull_3 : decode cX6_bestPull 3 = .ok (.invokestatic 148, 3) := by decide +kernel
theorem dX6_bestPull_6 : decode cX6_bestPull 6 = .ok (.ifCond .ne 6, 3) := by decide +kernel
theorem dX6_bestPull_9 : decode cX6_bestPull 9 = .ok (.ldc 69, 2) := by decide +kernel
theorem dX6_bestPull_11 : decode cX6_bestPull 11 = .ok (.ireturn, 1) := by decide +kernel
theorem dX6_bestPull_12 : decode cX6_bestPull 12 = .ok (.iconst (-1), 1) := by decide +kernel
theorem dX6_bestPull_13 : decode cX6_bestPull 13 = .ok (.istore_n 2, 1) := by decide +kernel
theorem dX6_bestPull_14 : decode cX6_bestPull 14 = .ok (.aload_n 0, 1) := by decide +kernel
theorem dX6_bestPull_15 : decode cX6_bestPull 15 = .ok (.getfield 10, 3) := by decide +kernel
theorem dX6_bestPull_18 : decode cX6_bestPull 18 = .ok (.getfield 174, 3) := by decide +kernel
theorem dX6_bestPull_21 : decode cX6_bestPull 21 = .ok (.istore_n 3, 1) := by decide +kernel
theorem dX6_bestPull_22 : decode cX6_bestPull 22 = .ok (.iconst 0, 1) := by decide +kernel
theorem dX6_bestPull_23 : decode cX6_bestPull 23 = .ok (.istore 4, 2) := by decide +kernel
theorem dX6_bestPull_25 : decode cX6_bestPull 25 = .ok (.iload 4, 2) := by decide +kernel
theorem dX6_bestPull_27 : decode cX6_bestPull 27 = .ok (.aload_n 0, 1) := by decide +kernel
theorem dX6_bestPull_28 : decode cX6_bestPull 28 = .ok (.getfield 10, 3) := by decide +kernel
theorem dX6_bestPull_31 : decode cX6_bestPull 31 = .ok (.getfield 178, 3) := by decide +kernel
theorem dX6_bestPull_34 : decode cX6_bestPull 34 = .ok (.if_icmp .ge 40, 3) := by decide +kernel
theorem dX6_bestPull_37 : decode cX6_bestPull 37 = .ok (.aload_n 0, 1) := by decide +kernel
theorem dX6_bestPull_38 : decode cX6_bestPull 38 = .ok (.iload 4, 2) := by decide +kernel
theorem dX6_bestPull_40 : decode cX6_bestPull 40 = .ok (.iconst 0, 1) := by decide +kernel
theorem dX6_bestPull_41 : decode cX6_bestPull 41 = .ok (.invokevirtual 181, 3) := by decide +kernel
theorem dX6_bestPull_44 : decode cX6_bestPull 44 = .ok (.aload_n 0, 1) := by decide +kernel
theorem dX6_bestPull_45 : decode cX6_bestPull 45 = .ok (.iload 4, 2) := by decide +kernel
theorem dX6_bestPull_47 : decode cX6_bestPull 47 = .ok (.iconst 1, 1) := by decide +kernel
theorem dX6_bestPull_48 : decode cX6_bestPull 48 = .ok (.invokevirtual 181, 3) := by decide +kernel
theorem dX6_bestPull_51 : decode cX6_bestPull 51 = .ok (.invokestatic 184, 3) := by decide +kernel
theorem dX6_bestPull_54 : decode cX6_bestPull 54 = .ok (.istore 5, 2) := by decide +kernel
theorem dX6_bestPull_56 : decode cX6_bestPull 56 = .ok (.iload 5, 2) := by decide +kernel
theorem dX6_bestPull_58 : decode cX6_bestPull 58 = .ok (.iload_n 3, 1) := by decide +kernel
theorem dX6_bestPull_59 : decode cX6_bestPull 59 = .ok (.if_icmp .le 9, 3) := by decide +kernel
theorem dX6_bestPull_62 : decode cX6_bestPull 62 = .ok (.iload 4, 2) := by decide +kernel
theorem dX6_bestPull_64 : decode cX6_bestPull 64 = .ok (.istore_n 2, 1) := by decide +kernel
theorem dX6_bestPull_65 : decode cX6_bestPull 65 = .ok (.iload 5, 2) := by decide +kernel
theorem dX6_bestPull_67 : decode cX6_bestPull 67 = .ok (.istore_n 3, 1) := by decide +kernel
theorem dX6_bestPull_68 : decode cX6_bestPull 68 = .ok (.iinc 4 1, 3) := by decide +kernel
theorem dX6_bestPull_71 : decode cX6_bestPull 71 = .ok (.goto (-46), 3) := by decide +kernel
theorem dX6_bestPull_74 : decode cX6_bestPull 74 = .ok (.iload_n 2, 1) := by decide +kernel
theorem dX6_bestPull_75 : decode cX6_bestPull 75 = .ok (.iconst (-1), 1) := by decide +kernel
theorem dX6_bestPull_76 : decode cX6_bestPull 76 = .ok (.if_icmp .ne 6, 3) := by decide +kernel
theorem dX6_bestPull_79 : decode cX6_bestPull 79 = .ok (.ldc 98, 2) := by decide +kernel
theorem dX6_bestPull_81 : decode cX6_bestPull 81 = .ok (.ireturn, 1) := by decide +kernel
theorem dX6_bestPull_82 : decode cX6_bestPull 82 = .ok (.iload_n 1, 1) := by decide +kernel
theorem dX6_bestPull_83 : decode cX6_bestPull 83 = .ok (.ifCond .ne 7, 3) := by decide +kernel
theorem dX6_bestPull_86 : decode cX6_bestPull 86 = .ok (.iload_n 2, 1) := by decide +kernel
theorem dX6_bestPull_87 : decode cX6_bestPull 87 = .ok (.goto 4, 3) := by decide +kernel
theorem dX6_bestPull_90 : decode cX6_bestPull 90 = .ok (.iload_n 3, 1) := by decide +kernel
theorem dX6_bestPull_91 : decode cX6_bestPull 91 = .ok (.ireturn, 1) := by decide +kernel
theorem dX6_seatsIfPulled_0 : decode cX6_seatsIfPulled 0 = .ok (.aload_n 0, 1) := by decide +kernel
theorem dX6_seatsIfPulled_1 : decode cX6_seatsIfPulled 1 = .ok (.getfield 16, 3) := by decide +kernel
theorem dX6_seatsIfPulled_4 : decode cX6_seatsIfPulled 4 = .ok (.aload_n 0, 1) := by decide +kernel
theorem dX6_seatsIfPulled_5 : decode cX6_seatsIfPulled 5 = .ok (.getfield 10, 3) := by decide +kernel
theorem dX6_seatsIfPulled_8 : decode cX6_seatsIfPulled 8 = .ok (.invokevirtual 37, 3) := by decide +kernel
theorem dX6_seatsIfPulled_11 : decode cX6_seatsIfPulled 11 = .ok (.aload_n 0, 1) := by decide +kernel
theorem dX6_seatsIfPulled_12 : decode cX6_seatsIfPulled 12 = .ok (.getfield 16, 3) := by decide +kernel
theorem dX6_seatsIfPulled_15 : decode cX6_seatsIfPulled 15 = .ok (.iload_n 1, 1) := by decide +kernel
theorem dX6_seatsIfPulled_16 : decode cX6_seatsIfPulled 16 = .ok (.iload_n 2, 1) := by decide +kernel
theorem dX6_seatsIfPulled_17 : decode cX6_seatsIfPulled 17 = .ok (.invokevirtual 59, 3) := by decide +kernel
theorem dX6_seatsIfPulled_20 : decode cX6_seatsIfPulled 20 = .ok (.ireturn, 1) := by decide +kernel
theorem dX6_fewest_0 : decode cX6_fewest 0 = .ok (.iload_n 1, 1) := by decide +kernel
theorem dX6_fewest_1 : decode cX6_fewest 1 = .ok (.iconst 0, 1) := by decide +kernel
theorem dX6_fewest_2 : decode cX6_fewest 2 = .ok (.iconst 1, 1) := by decide +kernel
theorem dX6_fewest_3 : decode cX6_fewest 3 = .ok (.invokestatic 148, 3) := by decide +kernel
theorem dX6_fewest_6 : decode cX6_fewest 6 = .ok (.ifCond .ne 6, 3) := by decide +kernel
theorem dX6_fewest_9 : decode cX6_fewest 9 = .ok (.ldc 69, 2) := by decide +kernel
theorem dX6_fewest_11 : decode cX6_fewest 11 = .ok (.ireturn, 1) := by decide +kernel
theorem dX6_fewest_12 : decode cX6_fewest 12 = .ok (.aload_n 0, 1) := by decide +kernel
theorem dX6_fewest_13 : decode cX6_fewest 13 = .ok (.getfield 10, 3) := by decide +kernel
theorem dX6_fewest_16 : decode cX6_fewest 16 = .ok (.getfield 178, 3) := by decide +kernel
theorem dX6_fewest_19 : decode cX6_fewest 19 = .ok (.ifCond .ne 6, 3) := by decide +kernel
theorem dX6_fewest_22 : decode cX6_fewest 22 = .ok (.ldc 98, 2) := by decide +kernel
theorem dX6_fewest_24 : decode cX6_fewest 24 = .ok (.ireturn, 1) := by decide +kernel
theorem dX6_fewest_25 : decode cX6_fewest 25 = .ok (.aload_n 0, 1) := by decide +kernel
theorem dX6_fewest_26 : decode cX6_fewest 26 = .ok (.getfield 26, 3) := by decide +kernel
theorem dX6_fewest_29 : decode cX6_fewest 29 = .ok (.aload_n 0, 1) := by decide +kernel
theorem dX6_fewest_30 : decode cX6_fewest 30 = .ok (.getfield 10, 3) := by decide +kernel
theorem dX6_fewest_33 : decode cX6_fewest 33 = .ok (.invokevirtual 189, 3) := by decide +kernel
theorem dX6_fewest_36 : decode cX6_fewest 36 = .ok (.iload_n 1, 1) := by decide +kernel
theorem dX6_fewest_37 : decode cX6_fewest 37 = .ok (.ifCond .ne 13, 3) := by decide +kernel
theorem dX6_fewest_40 : decode cX6_fewest 40 = .ok (.aload_n 0, 1) := by decide +kernel
theorem dX6_fewest_41 : decode cX6_fewest 41 = .ok (.getfield 26, 3) := by decide +kernel
theorem dX6_fewest_44 : decode cX6_fewest 44 = .ok (.invokevirtual 192, 3) := by decide +kernel
theorem dX6_fewest_47 : decode cX6_fewest 47 = .ok (.goto 10, 3) := by decide +kernel
theorem dX6_fewest_50 : decode cX6_fewest 50 = .ok (.aload_n 0, 1) := by decide +kernel
theorem dX6_fewest_51 : decode cX6_fewest 51 = .ok (.getfield 26, 3) := by decide +kernel
theorem dX6_fewest_54 : decode cX6_fewest 54 = .ok (.invokevirtual 195, 3) := by decide +kernel
theorem dX6_fewest_57 : decode cX6_fewest 57 = .ok (.istore_n 2, 1) := by decide +kernel
theorem dX6_fewest_58 : decode cX6_fewest 58 = .ok (.iload_n 2, 1) := by decide +kernel
theorem dX6_fewest_59 : decode cX6_fewest 59 = .ok (.iconst (-1), 1) := by decide +kernel
theorem dX6_fewest_60 : decode cX6_fewest 60 = .ok (.if_icmp .ne 8, 3) := by decide +kernel
theorem dX6_fewest_63 : decode cX6_fewest 63 = .ok (.ldc 98, 2) := by decide +kernel
theorem dX6_fewest_65 : decode cX6_fewest 65 = .ok (.goto 4, 3) := by decide +kernel
theorem dX6_fewest_68 : decode cX6_fewest 68 = .ok (.iload_n 2, 1) := by decide +kernel
theorem dX6_fewest_69 : decode cX6_fewest 69 = .ok (.ireturn, 1) := by decide +kernel
theorem dX6_ifCut_0 : decode cX6_ifCut 0 = .ok (.aload_n 0, 1) := by decide +kernel
theorem dX6_ifCut_1 : decode cX6_ifCut 1 = .ok (.getfield 10, 3) := by decide +kernel
theorem dX6_ifCut_4 : decode cX6_ifCut 4 = .ok (.getfield 105, 3) := by decide +kernel
theorem dX6_ifCut_7 : decode cX6_ifCut 7 = .ok (.iload_n 1, 1) := by decide +kernel
theorem dX6_ifCut_8 : decode cX6_ifCut 8 = .ok (.invokevirtual 120, 3) := by decide +kernel
theorem dX6_ifCut_11 : decode cX6_ifCut 11 = .ok (.ifCond .eq 12, 3) := by decide +kernel
theorem dX6_ifCut_14 : decode cX6_ifCut 14 = .ok (.iload_n 2, 1) := by decide +kernel
theorem dX6_ifCut_15 : decode cX6_ifCut 15 = .ok (.iconst 0, 1) := by decide +kernel
theorem dX6_ifCut_16 : decode cX6_ifCut 16 = .ok (.iconst 1, 1) := by decide +kernel
theorem dX6_ifCut_17 : decode cX6_ifCut 17 = .ok (.invokestatic 148, 3) := by decide +kernel
theorem dX6_ifCut_20 : decode cX6_ifCut 20 = .ok (.ifCond .ne 6, 3) := by decide +kernel
theorem dX6_ifCut_23 : decode cX6_ifCut 23 = .ok (.ldc 69, 2) := by decide +kernel
theorem dX6_ifCut_25 : decode cX6_ifCut 25 = .ok (.ireturn, 1) := by decide +kernel
theorem dX6_ifCut_26 : decode cX6_ifCut 26 = .ok (.aload_n 0, 1) := by decide +kernel
theorem dX6_ifCut_27 : decode cX6_ifCut 27 = .ok (.getfield 16, 3) := by decide +kernel
theorem dX6_ifCut_30 : decode cX6_ifCut 30 = .ok (.aload_n 0, 1) := by decide +kernel
theorem dX6_ifCut_31 : decode cX6_ifCut 31 = .ok (.getfield 10, 3) := by decide +kernel
theorem dX6_ifCut_34 : decode cX6_ifCut 34 = .ok (.invokevirtual 37, 3) := by decide +kernel
theorem dX6_ifCut_37 : decode cX6_ifCut 37 = .ok (.aload_n 0, 1) := by decide +kernel
theorem dX6_ifCut_38 : decode cX6_ifCut 38 = .ok (.getfield 16, 3) := by decide +kernel
theorem dX6_ifCut_41 : decode cX6_ifCut 41 = .ok (.iload_n 1, 1) := by decide +kernel
theorem dX6_ifCut_42 : decode cX6_ifCut 42 = .ok (.invokevirtual 53, 3) := by decide +kernel
theorem dX6_ifCut_45 : decode cX6_ifCut 45 = .ok (.pop, 1) := by decide +kernel
theorem dX6_ifCut_46 : decode cX6_ifCut 46 = .ok (.iload_n 2, 1) := by decide +kernel
theorem dX6_ifCut_47 : decode cX6_ifCut 47 = .ok (.ifCond .ne 13, 3) := by decide +kernel
theorem dX6_ifCut_50 : decode cX6_ifCut 50 = .ok (.aload_n 0, 1) := by decide +kernel
theorem dX6_ifCut_51 : decode cX6_ifCut 51 = .ok (.getfield 16, 3) := by decide +kernel
theorem dX6_ifCut_54 : decode cX6_ifCut 54 = .ok (.getfield 174, 3) := by decide +kernel
theorem dX6_ifCut_57 : decode cX6_ifCut 57 = .ok (.goto 10, 3) := by decide +kernel
theorem dX6_ifCut_60 : decode cX6_ifCut 60 = .ok (.aload_n 0, 1) := by decide +kernel
theorem dX6_ifCut_61 : decode cX6_ifCut 61 = .ok (.getfield 16, 3) := by decide +kernel
theorem dX6_ifCut_64 : decode cX6_ifCut 64 = .ok (.invokevirtual 198, 3) := by decide +kernel
theorem dX6_ifCut_67 : decode cX6_ifCut 67 = .ok (.ireturn, 1) := by decide +kernel
theorem dX6_share_0 : decode cX6_share 0 = .ok (.aload_n 0, 1) := by decide +kernel
theorem dX6_share_1 : decode cX6_share 1 = .ok (.getfield 10, 3) := by decide +kernel
theorem dX6_share_4 : decode cX6_share 4 = .ok (.getfield 201, 3) := by decide +kernel
theorem dX6_share_7 : decode cX6_share 7 = .ok (.istore_n 1, 1) := by decide +kernel
theorem dX6_share_8 : decode cX6_share 8 = .ok (.iload_n 1, 1) := by decide +kernel
theorem dX6_share_9 : decode cX6_share 9 = .ok (.ifCond .gt 6, 3) := by decide +kernel
theorem dX6_share_12 : decode cX6_share 12 = .ok (.ldc 98, 2) := by decide +kernel
theorem dX6_share_14 : decode cX6_share 14 = .ok (.ireturn, 1) := by decide +kernel
theorem dX6_share_15 : decode cX6_share 15 = .ok (.aload_n 0, 1) := by decide +kernel
theorem dX6_share_16 : decode cX6_share 16 = .ok (.getfield 10, 3) := by decide +kernel
theorem dX6_share_19 : decode cX6_share 19 = .ok (.getfield 174, 3) := by decide +kernel
theorem dX6_share_22 : decode cX6_share 22 = .ok (.i2f, 1) := by decide +kernel
theorem dX6_share_23 : decode cX6_share 23 = .ok (.iload_n 1, 1) := by decide +kernel
theorem dX6_share_24 : decode cX6_share 24 = .ok (.i2f, 1) := by decide +kernel
theorem dX6_share_25 : decode cX6_share 25 = .ok (.fdiv, 1) := by decide +kernel
theorem dX6_share_26 : decode cX6_share 26 = .ok (.invokestatic 204, 3) := by decide +kernel
theorem dX6_share_29 : decode cX6_share 29 = .ok (.ireturn, 1) := by decide +kernel
theorem dX6_bitsOf_0 : decode cX6_bitsOf 0 = .ok (.fload_n 0, 1) := by decide +kernel
theorem dX6_bitsOf_1 : decode cX6_bitsOf 1 = .ok (.fconst 0, 1) := by decide +kernel
theorem dX6_bitsOf_2 : decode cX6_bitsOf 2 = .ok (.fcmp .g, 1) := by decide +kernel
theorem dX6_bitsOf_3 : decode cX6_bitsOf 3 = .ok (.ifCond .gt 5, 3) := by decide +kernel
theorem dX6_bitsOf_6 : decode cX6_bitsOf 6 = .ok (.iconst 0, 1) := by decide +kernel
theorem dX6_bitsOf_7 : decode cX6_bitsOf 7 = .ok (.ireturn, 1) := by decide +kernel
theorem dX6_bitsOf_8 : decode cX6_bitsOf 8 = .ok (.fload_n 0, 1) := by decide +kernel
theorem dX6_bitsOf_9 : decode cX6_bitsOf 9 = .ok (.fstore_n 1, 1) := by decide +kernel
theorem dX6_bitsOf_10 : decode cX6_bitsOf 10 = .ok (.bipush 127, 2) := by decide +kernel
theorem dX6_bitsOf_12 : decode cX6_bitsOf 12 = .ok (.istore_n 2, 1) := by decide +kernel
theorem dX6_bitsOf_13 : decode cX6_bitsOf 13 = .ok (.iload_n 2, 1) := by decide +kernel
theorem dX6_bitsOf_14 : decode cX6_bitsOf 14 = .ok (.iconst 1, 1) := by decide +kernel
theorem dX6_bitsOf_15 : decode cX6_bitsOf 15 = .ok (.if_icmp .le 19, 3) := by decide +kernel
theorem dX6_bitsOf_18 : decode cX6_bitsOf 18 = .ok (.fload_n 1, 1) := by decide +kernel
theorem dX6_bitsOf_19 : decode cX6_bitsOf 19 = .ok (.fconst 1, 1) := by decide +kernel
theorem dX6_bitsOf_20 : decode cX6_bitsOf 20 = .ok (.fcmp .g, 1) := by decide +kernel
theorem dX6_bitsOf_21 : decode cX6_bitsOf 21 = .ok (.ifCond .ge 13, 3) := by decide +kernel
theorem dX6_bitsOf_24 : decode cX6_bitsOf 24 = .ok (.fload_n 1, 1) := by decide +kernel
theorem dX6_bitsOf_25 : decode cX6_bitsOf 25 = .ok (.fconst 2, 1) := by decide +kernel
theorem dX6_bitsOf_26 : decode cX6_bitsOf 26 = .ok (.fmul, 1) := by decide +kernel
theorem dX6_bitsOf_27 : decode cX6_bitsOf 27 = .ok (.fstore_n 1, 1) := by decide +kernel
theorem dX6_bitsOf_28 : decode cX6_bitsOf 28 = .ok (.iinc 2 (-1), 3) := by decide +kernel
theorem dX6_bitsOf_31 : decode cX6_bitsOf 31 = .ok (.goto (-18), 3) := by decide +kernel
theorem dX6_bitsOf_34 : decode cX6_bitsOf 34 = .ok (.fload_n 1, 1) := by decide +kernel
theorem dX6_bitsOf_35 : decode cX6_bitsOf 35 = .ok (.fconst 1, 1) := by decide +kernel
theorem dX6_bitsOf_36 : decode cX6_bitsOf 36 = .ok (.fsub, 1) := by decide +kernel
theorem dX6_bitsOf_37 : decode cX6_bitsOf 37 = .ok (.ldc 208, 2) := by decide +kernel
theorem dX6_bitsOf_39 : decode cX6_bitsOf 39 = .ok (.fmul, 1) := by decide +kernel
theorem dX6_bitsOf_40 : decode cX6_bitsOf 40 = .ok (.f2i, 1) := by decide +kernel
theorem dX6_bitsOf_41 : decode cX6_bitsOf 41 = .ok (.istore_n 3, 1) := by decide +kernel
theorem dX6_bitsOf_42 : decode cX6_bitsOf 42 = .ok (.iload_n 2, 1) := by decide +kernel
theorem dX6_bitsOf_43 : decode cX6_bitsOf 43 = .ok (.bipush 23, 2) := by decide +kernel
theorem dX6_bitsOf_45 : decode cX6_bitsOf 45 = .ok (.ishl, 1) := by decide +kernel
theorem dX6_bitsOf_46 : decode cX6_bitsOf 46 = .ok (.iload_n 3, 1) := by decide +kernel
theorem dX6_bitsOf_47 : decode cX6_bitsOf 47 = .ok (.ior, 1) := by decide +kernel
theorem dX6_bitsOf_48 : decode cX6_bitsOf 48 = .ok (.ireturn, 1) := by decide +kernel
theorem dX6_count_0 : decode cX6_count 0 = .ok (.iload_n 1, 1) := by decide +kernel
theorem dX6_count_1 : decode cX6_count 1 = .ok (.tableswitch 285 0 20 #[99, 107, 118, 126, 134, 142, 150, 166, 189, 212, 220, 231, 242, 253, 258, 266, 285, 285, 285, 285, 277], 99) := by decide +kernel
theorem dX6_count_100 : decode cX6_count 100 = .ok (.aload_n 0, 1) := by decide +kernel
theorem dX6_count_101 : decode cX6_count 101 = .ok (.getfield 10, 3) := by decide +kernel
theorem dX6_count_104 : decode cX6_count 104 = .ok (.getfield 178, 3) := by decide +kernel
theorem dX6_count_107 : decode cX6_count 107 = .ok (.ireturn, 1) := by decide +kernel
theorem dX6_count_108 : decode cX6_count 108 = .ok (.aload_n 0, 1) := by decide +kernel
theorem dX6_count_109 : decode cX6_count 109 = .ok (.getfield 10, 3) := by decide +kernel
theorem dX6_count_112 : decode cX6_count 112 = .ok (.getfield 105, 3) := by decide +kernel
theorem dX6_count_115 : decode cX6_count 115 = .ok (.getfield 209, 3) := by decide +kernel
theorem dX6_count_118 : decode cX6_count 118 = .ok (.ireturn, 1) := by decide +kernel
theorem dX6_count_119 : decode cX6_count 119 = .ok (.aload_n 0, 1) := by decide +kernel
theorem dX6_count_120 : decode cX6_count 120 = .ok (.getfield 10, 3) := by decide +kernel
theorem dX6_count_123 : decode cX6_count 123 = .ok (.invokevirtual 198, 3) := by decide +kernel
theorem dX6_count_126 : decode cX6_count 126 = .ok (.ireturn, 1) := by decide +kernel
theorem dX6_count_127 : decode cX6_count 127 = .ok (.aload_n 0, 1) := by decide +kernel
theorem dX6_count_128 : decode cX6_count 128 = .ok (.getfield 10, 3) := by decide +kernel
theorem dX6_count_131 : decode cX6_count 131 = .ok (.invokevirtual 212, 3) := by decide +kernel
theorem dX6_count_134 : decode cX6_count 134 = .ok (.ireturn, 1) := by decide +kernel
theorem dX6_count_135 : decode cX6_count 135 = .ok (.aload_n 0, 1) := by decide +kernel
theorem dX6_count_136 : decode cX6_count 136 = .ok (.getfield 10, 3) := by decide +kernel
theorem dX6_count_139 : decode cX6_count 139 = .ok (.getfield 201, 3) := by decide +kernel
theorem dX6_count_142 : decode cX6_count 142 = .ok (.ireturn, 1) := by decide +kernel
theorem dX6_count_143 : decode cX6_count 143 = .ok (.aload_n 0, 1) := by decide +kernel
theorem dX6_count_144 : decode cX6_count 144 = .ok (.getfield 10, 3) := by decide +kernel
theorem dX6_count_147 : decode cX6_count 147 = .ok (.getfield 174, 3) := by decide +kernel
theorem dX6_count_150 : decode cX6_count 150 = .ok (.ireturn, 1) := by decide +kernel
theorem dX6_count_151 : decode cX6_count 151 = .ok (.aload_n 0, 1) := by decide +kernel
theorem dX6_count_152 : decode cX6_count 152 = .ok (.getfield 10, 3) := by decide +kernel
theorem dX6_count_155 : decode cX6_count 155 = .ok (.getfield 201, 3) := by decide +kernel
theorem dX6_count_158 : decode cX6_count 158 = .ok (.aload_n 0, 1) := by decide +kernel
theorem dX6_count_159 : decode cX6_count 159 = .ok (.getfield 10, 3) := by decide +kernel
theorem dX6_count_162 : decode cX6_count 162 = .ok (.getfield 174, 3) := by decide +kernel
theorem dX6_count_165 : decode cX6_count 165 = .ok (.isub, 1) := by decide +kernel
theorem dX6_count_166 : decode cX6_count 166 = .ok (.ireturn, 1) := by decide +kernel
theorem dX6_count_167 : decode cX6_count 167 = .ok (.aload_n 0, 1) := by decide +kernel
theorem dX6_count_168 : decode cX6_count 168 = .ok (.getfield 10, 3) := by decide +kernel
theorem dX6_count_171 : decode cX6_count 171 = .ok (.getfield 178, 3) := by decide +kernel
theorem dX6_count_174 : decode cX6_count 174 = .ok (.ifCond .ne 8, 3) := by decide +kernel
theorem dX6_count_177 : decode cX6_count 177 = .ok (.ldc 98, 2) := by decide +kernel
theorem dX6_count_179 : decode cX6_count 179 = .ok (.goto 10, 3) := by decide +kernel
theorem dX6_count_182 : decode cX6_count 182 = .ok (.aload_n 0, 1) := by decide +kernel
theorem dX6_count_183 : decode cX6_count 183 = .ok (.getfield 10, 3) := by decide +kernel
theorem dX6_count_186 : decode cX6_count 186 = .ok (.invokevirtual 215, 3) := by decide +kernel
theorem dX6_count_189 : decode cX6_count 189 = .ok (.ireturn, 1) := by decide +kernel
theorem dX6_count_190 : decode cX6_count 190 = .ok (.aload_n 0, 1) := by decide +kernel
theorem dX6_count_191 : decode cX6_count 191 = .ok (.getfield 10, 3) := by decide +kernel
theorem dX6_count_194 : decode cX6_count 194 = .ok (.getfield 178, 3) := by decide +kernel
theorem dX6_count_197 : decode cX6_count 197 = .ok (.ifCond .ne 8, 3) := by decide +kernel
theorem dX6_count_200 : decode cX6_count 200 = .ok (.ldc 98, 2) := by decide +kernel
theorem dX6_count_202 : decode cX6_count 202 = .ok (.goto 10, 3) := by decide +kernel
theorem dX6_count_205 : decode cX6_count 205 = .ok (.aload_n 0, 1) := by decide +kernel
theorem dX6_count_206 : decode cX6_count 206 = .ok (.getfield 10, 3) := by decide +kernel
theorem dX6_count_209 : decode cX6_count 209 = .ok (.getfield 218, 3) := by decide +kernel
theorem dX6_count_212 : decode cX6_count 212 = .ok (.ireturn, 1) := by decide +kernel
theorem dX6_count_213 : decode cX6_count 213 = .ok (.aload_n 0, 1) := by decide +kernel
theorem dX6_count_214 : decode cX6_count 214 = .ok (.getfield 10, 3) := by decide +kernel
theorem dX6_count_217 : decode cX6_count 217 = .ok (.invokevirtual 221, 3) := by decide +kernel
theorem dX6_count_220 : decode cX6_count 220 = .ok (.ireturn, 1) := by decide +kernel
theorem dX6_count_221 : decode cX6_count 221 = .ok (.aload_n 0, 1) := by decide +kernel
theorem dX6_count_222 : decode cX6_count 222 = .ok (.getfield 10, 3) := by decide +kernel
theorem dX6_count_225 : decode cX6_count 225 = .ok (.getfield 152, 3) := by decide +kernel
theorem dX6_count_228 : decode cX6_count 228 = .ok (.getfield 224, 3) := by decide +kernel
theorem dX6_count_231 : decode cX6_count 231 = .ok (.ireturn, 1) := by decide +kernel
theorem dX6_count_232 : decode cX6_count 232 = .ok (.aload_n 0, 1) := by decide +kernel
theorem dX6_count_233 : decode cX6_count 233 = .ok (.getfield 10, 3) := by decide +kernel
theorem dX6_count_236 : decode cX6_count 236 = .ok (.getfield 152, 3) := by decide +kernel
theorem dX6_count_239 : decode cX6_count 239 = .ok (.getfield 227, 3) := by decide +kernel
theorem dX6_count_242 : decode cX6_count 242 = .ok (.ireturn, 1) := by decide +kernel
theorem dX6_count_243 : decode cX6_count 243 = .ok (.aload_n 0, 1) := by decide +kernel
theorem dX6_count_244 : decode cX6_count 244 = .ok (.getfield 10, 3) := by decide +kernel
theorem dX6_count_247 : decode cX6_count 247 = .ok (.getfield 152, 3) := by decide +kernel
theorem dX6_count_250 : decode cX6_count 250 = .ok (.invokevirtual 156, 3) := by decide +kernel
theorem dX6_count_253 : decode cX6_count 253 = .ok (.ireturn, 1) := by decide +kernel
theorem dX6_count_254 : decode cX6_count 254 = .ok (.aload_n 0, 1) := by decide +kernel
theorem dX6_count_255 : decode cX6_count 255 = .ok (.getfield 230, 3) := by decide +kernel
theorem dX6_count_258 : decode cX6_count 258 = .ok (.ireturn, 1) := by decide +kernel
theorem dX6_count_259 : decode cX6_count 259 = .ok (.aload_n 0, 1) := by decide +kernel
theorem dX6_count_260 : decode cX6_count 260 = .ok (.getfield 33, 3) := by decide +kernel
theorem dX6_count_263 : decode cX6_count 263 = .ok (.getfield 233, 3) := by decide +kernel
theorem dX6_count_266 : decode cX6_count 266 = .ok (.ireturn, 1) := by decide +kernel
theorem dX6_count_267 : decode cX6_count 267 = .ok (.aload_n 0, 1) := by decide +kernel
theorem dX6_count_268 : decode cX6_count 268 = .ok (.getfield 10, 3) := by decide +kernel
theorem dX6_count_271 : decode cX6_count 271 = .ok (.getfield 105, 3) := by decide +kernel
theorem dX6_count_274 : decode cX6_count 274 = .ok (.getfield 236, 3) := by decide +kernel
theorem dX6_count_277 : decode cX6_count 277 = .ok (.ireturn, 1) := by decide +kernel
theorem dX6_count_278 : decode cX6_count 278 = .ok (.aload_n 0, 1) := by decide +kernel
theorem dX6_count_279 : decode cX6_count 279 = .ok (.getfield 10, 3) := by decide +kernel
theorem dX6_count_282 : decode cX6_count 282 = .ok (.getfield 239, 3) := by decide +kernel
theorem dX6_count_285 : decode cX6_count 285 = .ok (.ireturn, 1) := by decide +kernel
theorem dX6_count_286 : decode cX6_count 286 = .ok (.ldc 69, 2) := by decide +kernel
theorem dX6_count_288 : decode cX6_count 288 = .ok (.ireturn, 1) := by decide +kernel
theorem dX6_undo_0 : decode cX6_undo 0 = .ok (.aload_n 0, 1) := by decide +kernel
theorem dX6_undo_1 : decode cX6_undo 1 = .ok (.getfield 230, 3) := by decide +kernel
theorem dX6_undo_4 : decode cX6_undo 4 = .ok (.ifCond .ne 6, 3) := by decide +kernel
theorem dX6_undo_7 : decode cX6_undo 7 = .ok (.ldc 242, 2) := by decide +kernel
theorem dX6_undo_9 : decode cX6_undo 9 = .ok (.ireturn, 1) := by decide +kernel
theorem dX6_undo_10 : decode cX6_undo 10 = .ok (.aload_n 0, 1) := by decide +kernel
theorem dX6_undo_11 : decode cX6_undo 11 = .ok (.aload_n 0, 1) := by decide +kernel
theorem dX6_undo_12 : decode cX6_undo 12 = .ok (.getfield 230, 3) := by decide +kernel
theorem dX6_undo_15 : decode cX6_undo 15 = .ok (.iconst 1, 1) := by decide +kernel
theorem dX6_undo_16 : decode cX6_undo 16 = .ok (.isub, 1) := by decide +kernel
theorem dX6_undo_17 : decode cX6_undo 17 = .ok (.invokevirtual 243, 3) := by decide +kernel
theorem dX6_undo_20 : decode cX6_undo 20 = .ok (.astore_n 1, 1) := by decide +kernel
theorem dX6_undo_21 : decode cX6_undo 21 = .ok (.aload_n 1, 1) := by decide +kernel
theorem dX6_undo_22 : decode cX6_undo 22 = .ok (.ifnull 11, 3) := by decide +kernel
theorem dX6_undo_25 : decode cX6_undo 25 = .ok (.aload_n 0, 1) := by decide +kernel
theorem dX6_undo_26 : decode cX6_undo 26 = .ok (.getfield 10, 3) := by decide +kernel
theorem dX6_undo_29 : decode cX6_undo 29 = .ok (.aload_n 1, 1) := by decide +kernel
theorem dX6_undo_30 : decode cX6_undo 30 = .ok (.invokevirtual 37, 3) := by decide +kernel
theorem dX6_undo_33 : decode cX6_undo 33 = .ok (.aload_n 0, 1) := by decide +kernel
theorem dX6_undo_34 : decode cX6_undo 34 = .ok (.dup, 1) := by decide +kernel
theorem dX6_undo_35 : decode cX6_undo 35 = .ok (.getfield 230, 3) := by decide +kernel
theorem dX6_undo_38 : decode cX6_undo 38 = .ok (.iconst 1, 1) := by decide +kernel
theorem dX6_undo_39 : decode cX6_undo 39 = .ok (.isub, 1) := by decide +kernel
theorem dX6_undo_40 : decode cX6_undo 40 = .ok (.putfield 230, 3) := by decide +kernel
theorem dX6_undo_43 : decode cX6_undo 43 = .ok (.aload_n 0, 1) := by decide +kernel
theorem dX6_undo_44 : decode cX6_undo 44 = .ok (.getfield 230, 3) := by decide +kernel
theorem dX6_undo_47 : decode cX6_undo 47 = .ok (.ireturn, 1) := by decide +kernel
theorem dX6_type_0 : decode cX6_type 0 = .ok (.iload_n 1, 1) := by decide +kernel
theorem dX6_type_1 : decode cX6_type 1 = .ok (.bipush 32, 2) := by decide +kernel
theorem dX6_type_3 : decode cX6_type 3 = .ok (.bipush 126, 2) := by decide +kernel
theorem dX6_type_5 : decode cX6_type 5 = .ok (.invokestatic 148, 3) := by decide +kernel
theorem dX6_type_8 : decode cX6_type 8 = .ok (.ifCond .ne 6, 3) := by decide +kernel
theorem dX6_type_11 : decode cX6_type 11 = .ok (.ldc 69, 2) := by decide +kernel
theorem dX6_type_13 : decode cX6_type 13 = .ok (.ireturn, 1) := by decide +kernel
theorem dX6_type_14 : decode cX6_type 14 = .ok (.aload_n 0, 1) := by decide +kernel
theorem dX6_type_15 : decode cX6_type 15 = .ok (.getfield 33, 3) := by decide +kernel
theorem dX6_type_18 : decode cX6_type 18 = .ok (.iload_n 1, 1) := by decide +kernel
theorem dX6_type_19 : decode cX6_type 19 = .ok (.invokevirtual 247, 3) := by decide +kernel
theorem dX6_type_22 : decode cX6_type 22 = .ok (.ifCond .eq 13, 3) := by decide +kernel
theorem dX6_type_25 : decode cX6_type 25 = .ok (.aload_n 0, 1) := by decide +kernel
theorem dX6_type_26 : decode cX6_type 26 = .ok (.getfield 33, 3) := by decide +kernel
theorem dX6_type_29 : decode cX6_type 29 = .ok (.getfield 233, 3) := by decide +kernel
theorem dX6_type_32 : decode cX6_type 32 = .ok (.goto 5, 3) := by decide +kernel
theorem dX6_type_35 : decode cX6_type 35 = .ok (.ldc 250, 2) := by decide +kernel
theorem dX6_type_37 : decode cX6_type 37 = .ok (.ireturn, 1) := by decide +kernel
theorem dX6_clearText_0 : decode cX6_clearText 0 = .ok (.aload_n 0, 1) := by decide +kernel
theorem dX6_clearText_1 : decode cX6_clearText 1 = .ok (.getfield 33, 3) := by decide +kernel
theorem dX6_clearText_4 : decode cX6_clearText 4 = .ok (.getfield 233, 3) := by decide +kernel
theorem dX6_clearText_7 : decode cX6_clearText 7 = .ok (.istore_n 1, 1) := by decide +kernel
theorem dX6_clearText_8 : decode cX6_clearText 8 = .ok (.aload_n 0, 1) := by decide +kernel
theorem dX6_clearText_9 : decode cX6_clearText 9 = .ok (.getfield 33, 3) := by decide +kernel
theorem dX6_clearText_12 : decode cX6_clearText 12 = .ok (.iconst 0, 1) := by decide +kernel
theorem dX6_clearText_13 : decode cX6_clearText 13 = .ok (.putfield 233, 3) := by decide +kernel
theorem dX6_clearText_16 : decode cX6_clearText 16 = .ok (.iload_n 1, 1) := by decide +kernel
theorem dX6_clearText_17 : decode cX6_clearText 17 = .ok (.ireturn, 1) := by decide +kernel
theorem dX6_fault_0 : decode cX6_fault 0 = .ok (.iload_n 1, 1) := by decide +kernel
theorem dX6_fault_1 : decode cX6_fault 1 = .ok (.iconst 0, 1) := by decide +kernel
theorem dX6_fault_2 : decode cX6_fault 2 = .ok (.iconst 2, 1) := by decide +kernel
theorem dX6_fault_3 : decode cX6_fault 3 = .ok (.invokestatic 148, 3) := by decide +kernel
theorem dX6_fault_6 : decode cX6_fault 6 = .ok (.ifCond .ne 6, 3) := by decide +kernel
theorem dX6_fault_9 : decode cX6_fault 9 = .ok (.ldc 69, 2) := by decide +kernel
theorem dX6_fault_11 : decode cX6_fault 11 = .ok (.ireturn, 1) := by decide +kernel
theorem dX6_fault_12 : decode cX6_fault 12 = .ok (.aload_n 0, 1) := by decide +kernel
theorem dX6_fault_13 : decode cX6_fault 13 = .ok (.invokevirtual 251, 3) := by decide +kernel
theorem dX6_fault_16 : decode cX6_fault 16 = .ok (.ifCond .eq 6, 3) := by decide +kernel
theorem dX6_fault_19 : decode cX6_fault 19 = .ok (.ldc 98, 2) := by decide +kernel
theorem dX6_fault_21 : decode cX6_fault 21 = .ok (.ireturn, 1) := by decide +kernel
theorem dX6_fault_22 : decode cX6_fault 22 = .ok (.iload_n 1, 1) := by decide +kernel
theorem dX6_fault_23 : decode cX6_fault 23 = .ok (.lookupswitch 35 #[(0, 25), (1, 30)], 25) := by decide +kernel
theorem dX6_fault_48 : decode cX6_fault 48 = .ok (.aload_n 0, 1) := by decide +kernel
theorem dX6_fault_49 : decode cX6_fault 49 = .ok (.getfield 255, 3) := by decide +kernel
theorem dX6_fault_52 : decode cX6_fault 52 = .ok (.ireturn, 1) := by decide +kernel
theorem dX6_fault_53 : decode cX6_fault 53 = .ok (.aload_n 0, 1) := by decide +kernel
theorem dX6_fault_54 : decode cX6_fault 54 = .ok (.getfield 258, 3) := by decide +kernel
theorem dX6_fault_57 : decode cX6_fault 57 = .ok (.ireturn, 1) := by decide +kernel
theorem dX6_fault_58 : decode cX6_fault 58 = .ok (.aload_n 0, 1) := by decide +kernel
theorem dX6_fault_59 : decode cX6_fault 59 = .ok (.getfield 261, 3) := by decide +kernel
theorem dX6_fault_62 : decode cX6_fault 62 = .ok (.ireturn, 1) := by decide +kernel
theorem dX6_play_0 : decode cX6_play 0 = .ok (.aload_n 0, 1) := by decide +kernel
theorem dX6_play_1 : decode cX6_play 1 = .ok (.aload_n 0, 1) := by decide +kernel
theorem dX6_play_2 : decode cX6_play 2 = .ok (.invokevirtual 251, 3) := by decide +kernel
theorem dX6_play_5 : decode cX6_play 5 = .ok (.ifCond .eq 10, 3) := by decide +kernel
theorem dX6_play_8 : decode cX6_play 8 = .ok (.aload_n 0, 1) := by decide +kernel
theorem dX6_play_9 : decode cX6_play 9 = .ok (.getfield 264, 3) := by decide +kernel
theorem dX6_play_12 : decode cX6_play 12 = .ok (.goto 5, 3) := by decide +kernel
theorem dX6_play_15 : decode cX6_play 15 = .ok (.ldc 242, 2) := by decide +kernel
theorem dX6_play_17 : decode cX6_play 17 = .ok (.invokevirtual 45, 3) := by decide +kernel
theorem dX6_play_20 : decode cX6_play 20 = .ok (.ireturn, 1) := by decide +kernel
theorem dX6_tryOrders_0 : decode cX6_tryOrders 0 = .ok (.aload_n 0, 1) := by decide +kernel
theorem dX6_tryOrders_1 : decode cX6_tryOrders 1 = .ok (.getfield 16, 3) := by decide +kernel
theorem dX6_tryOrders_4 : decode cX6_tryOrders 4 = .ok (.aload_n 0, 1) := by decide +kernel
theorem dX6_tryOrders_5 : decode cX6_tryOrders 5 = .ok (.getfield 10, 3) := by decide +kernel
theorem dX6_tryOrders_8 : decode cX6_tryOrders 8 = .ok (.invokevirtual 37, 3) := by decide +kernel
theorem dX6_tryOrders_11 : decode cX6_tryOrders 11 = .ok (.aload_n 0, 1) := by decide +kernel
theorem dX6_tryOrders_12 : decode cX6_tryOrders 12 = .ok (.iconst 0, 1) := by decide +kernel
theorem dX6_tryOrders_13 : decode cX6_tryOrders 13 = .ok (.putfield 264, 3) := by decide +kernel
theorem dX6_tryOrders_16 : decode cX6_tryOrders 16 = .ok (.iconst 0, 1) := by decide +kernel
theorem dX6_tryOrders_17 : decode cX6_tryOrders 17 = .ok (.istore_n 1, 1) := by decide +kernel
theorem dX6_tryOrders_18 : decode cX6_tryOrders 18 = .ok (.iconst 0, 1) := by decide +kernel
theorem dX6_tryOrders_19 : decode cX6_tryOrders 19 = .ok (.istore_n 2, 1) := by decide +kernel
theorem dX6_tryOrders_20 : decode cX6_tryOrders 20 = .ok (.iload_n 2, 1) := by decide +kernel
theorem dX6_tryOrders_21 : decode cX6_tryOrders 21 = .ok (.bipush 60, 2) := by decide +kernel
theorem dX6_tryOrders_23 : decode cX6_tryOrders 23 = .ok (.if_icmp .ge 85, 3) := by decide +kernel
theorem dX6_tryOrders_26 : decode cX6_tryOrders 26 = .ok (.iload_n 1, 1) := by decide +kernel
theorem dX6_tryOrders_27 : decode cX6_tryOrders 27 = .ok (.aload_n 0, 1) := by decide +kernel
theorem dX6_tryOrders_28 : decode cX6_tryOrders 28 = .ok (.getfield 33, 3) := by decide +kernel
theorem dX6_tryOrders_31 : decode cX6_tryOrders 31 = .ok (.getfield 233, 3) := by decide +kernel
theorem dX6_tryOrders_34 : decode cX6_tryOrders 34 = .ok (.if_icmp .ge 74, 3) := by decide +kernel
theorem dX6_tryOrders_37 : decode cX6_tryOrders 37 = .ok (.aload_n 0, 1) := by decide +kernel
theorem dX6_tryOrders_38 : decode cX6_tryOrders 38 = .ok (.getfield 33, 3) := by decide +kernel
theorem dX6_tryOrders_41 : decode cX6_tryOrders 41 = .ok (.iload_n 1, 1) := by decide +kernel
theorem dX6_tryOrders_42 : decode cX6_tryOrders 42 = .ok (.invokevirtual 267, 3) := by decide +kernel
theorem dX6_tryOrders_45 : decode cX6_tryOrders 45 = .ok (.ifCond .ne 19, 3) := by decide +kernel
theorem dX6_tryOrders_48 : decode cX6_tryOrders 48 = .ok (.aload_n 0, 1) := by decide +kernel
theorem dX6_tryOrders_49 : decode cX6_tryOrders 49 = .ok (.iload_n 1, 1) := by decide +kernel
theorem dX6_tryOrders_50 : decode cX6_tryOrders 50 = .ok (.iconst 1, 1) := by decide +kernel
theorem dX6_tryOrders_51 : decode cX6_tryOrders 51 = .ok (.aload_n 0, 1) := by decide +kernel
theorem dX6_tryOrders_52 : decode cX6_tryOrders 52 = .ok (.getfield 33, 3) := by decide +kernel
theorem dX6_tryOrders_55 : decode cX6_tryOrders 55 = .ok (.getfield 270, 3) := by decide +kernel
theorem dX6_tryOrders_58 : decode cX6_tryOrders 58 = .ok (.iload_n 1, 1) := by decide +kernel
theorem dX6_tryOrders_59 : decode cX6_tryOrders 59 = .ok (.isub, 1) := by decide +kernel
theorem dX6_tryOrders_60 : decode cX6_tryOrders 60 = .ok (.invokevirtual 273, 3) := by decide +kernel
theorem dX6_tryOrders_63 : decode cX6_tryOrders 63 = .ok (.ireturn, 1) := by decide +kernel
theorem dX6_tryOrders_64 : decode cX6_tryOrders 64 = .ok (.aload_n 0, 1) := by decide +kernel
theorem dX6_tryOrders_65 : decode cX6_tryOrders 65 = .ok (.invokevirtual 276, 3) := by decide +kernel
theorem dX6_tryOrders_68 : decode cX6_tryOrders 68 = .ok (.istore_n 3, 1) := by decide +kernel
theorem dX6_tryOrders_69 : decode cX6_tryOrders 69 = .ok (.iload_n 3, 1) := by decide +kernel
theorem dX6_tryOrders_70 : decode cX6_tryOrders 70 = .ok (.invokestatic 279, 3) := by decide +kernel
theorem dX6_tryOrders_73 : decode cX6_tryOrders 73 = .ok (.ifCond .eq 11, 3) := by decide +kernel
theorem dX6_tryOrders_76 : decode cX6_tryOrders 76 = .ok (.aload_n 0, 1) := by decide +kernel
theorem dX6_tryOrders_77 : decode cX6_tryOrders 77 = .ok (.iload_n 1, 1) := by decide +kernel
theorem dX6_tryOrders_78 : decode cX6_tryOrders 78 = .ok (.iconst 2, 1) := by decide +kernel
theorem dX6_tryOrders_79 : decode cX6_tryOrders 79 = .ok (.iload_n 3, 1) := by decide +kernel
theorem dX6_tryOrders_80 : decode cX6_tryOrders 80 = .ok (.invokevirtual 273, 3) := by decide +kernel
theorem dX6_tryOrders_83 : decode cX6_tryOrders 83 = .ok (.ireturn, 1) := by decide +kernel
theorem dX6_tryOrders_84 : decode cX6_tryOrders 84 = .ok (.aload_n 0, 1) := by decide +kernel
theorem dX6_tryOrders_85 : decode cX6_tryOrders 85 = .ok (.dup, 1) := by decide +kernel
theorem dX6_tryOrders_86 : decode cX6_tryOrders 86 = .ok (.getfield 264, 3) := by decide +kernel
theorem dX6_tryOrders_89 : decode cX6_tryOrders 89 = .ok (.iconst 1, 1) := by decide +kernel
theorem dX6_tryOrders_90 : decode cX6_tryOrders 90 = .ok (.iadd, 1) := by decide +kernel
theorem dX6_tryOrders_91 : decode cX6_tryOrders 91 = .ok (.putfield 264, 3) := by decide +kernel
theorem dX6_tryOrders_94 : decode cX6_tryOrders 94 = .ok (.aload_n 0, 1) := by decide +kernel
theorem dX6_tryOrders_95 : decode cX6_tryOrders 95 = .ok (.getfield 33, 3) := by decide +kernel
theorem dX6_tryOrders_98 : decode cX6_tryOrders 98 = .ok (.getfield 270, 3) := by decide +kernel
theorem dX6_tryOrders_101 : decode cX6_tryOrders 101 = .ok (.istore_n 1, 1) := by decide +kernel
theorem dX6_tryOrders_102 : decode cX6_tryOrders 102 = .ok (.iinc 2 1, 3) := by decide +kernel
theorem dX6_tryOrders_105 : decode cX6_tryOrders 105 = .ok (.goto (-85), 3) := by decide +kernel
theorem dX6_tryOrders_108 : decode cX6_tryOrders 108 = .ok (.iconst 1, 1) := by decide +kernel
theorem dX6_tryOrders_109 : decode cX6_tryOrders 109 = .ok (.ireturn, 1) := by decide +kernel
theorem dX6_foundFault_0 : decode cX6_foundFault 0 = .ok (.aload_n 0, 1) := by decide +kernel
theorem dX6_foundFault_1 : decode cX6_foundFault 1 = .ok (.iload_n 1, 1) := by decide +kernel
theorem dX6_foundFault_2 : decode cX6_foundFault 2 = .ok (.putfield 255, 3) := by decide +kernel
theorem dX6_foundFault_5 : decode cX6_foundFault 5 = .ok (.aload_n 0, 1) := by decide +kernel
theorem dX6_foundFault_6 : decode cX6_foundFault 6 = .ok (.iload_n 2, 1) := by decide +kernel
theorem dX6_foundFault_7 : decode cX6_foundFault 7 = .ok (.putfield 258, 3) := by decide +kernel
theorem dX6_foundFault_10 : decode cX6_foundFault 10 = .ok (.aload_n 0, 1) := by decide +kernel
theorem dX6_foundFault_11 : decode cX6_foundFault 11 = .ok (.iload_n 3, 1) := by decide +kernel
theorem dX6_foundFault_12 : decode cX6_foundFault 12 = .ok (.putfield 261, 3) := by decide +kernel
theorem dX6_foundFault_15 : decode cX6_foundFault 15 = .ok (.iconst 0, 1) := by decide +kernel
theorem dX6_foundFault_16 : decode cX6_foundFault 16 = .ok (.ireturn, 1) := by decide +kernel
theorem dX6_obey_0 : decode cX6_obey 0 = .ok (.aload_n 0, 1) := by decide +kernel
theorem dX6_obey_1 : decode cX6_obey 1 = .ok (.getfield 33, 3) := by decide +kernel
theorem dX6_obey_4 : decode cX6_obey 4 = .ok (.getfield 282, 3) := by decide +kernel
theorem dX6_obey_7 : decode cX6_obey 7 = .ok (.iconst 0, 1) := by decide +kernel
theorem dX6_obey_8 : decode cX6_obey 8 = .ok (.invokevirtual 81, 3) := by decide +kernel
theorem dX6_obey_11 : decode cX6_obey 11 = .ok (.istore_n 1, 1) := by decide +kernel
theorem dX6_obey_12 : decode cX6_obey 12 = .ok (.aload_n 0, 1) := by decide +kernel
theorem dX6_obey_13 : decode cX6_obey 13 = .ok (.getfield 33, 3) := by decide +kernel
theorem dX6_obey_16 : decode cX6_obey 16 = .ok (.getfield 282, 3) := by decide +kernel
theorem dX6_obey_19 : decode cX6_obey 19 = .ok (.iconst 1, 1) := by decide +kernel
theorem dX6_obey_20 : decode cX6_obey 20 = .ok (.invokevirtual 81, 3) := by decide +kernel
theorem dX6_obey_23 : decode cX6_obey 23 = .ok (.istore_n 2, 1) := by decide +kernel
theorem dX6_obey_24 : decode cX6_obey 24 = .ok (.aload_n 0, 1) := by decide +kernel
theorem dX6_obey_25 : decode cX6_obey 25 = .ok (.getfield 33, 3) := by decide +kernel
theorem dX6_obey_28 : decode cX6_obey 28 = .ok (.getfield 282, 3) := by decide +kernel
theorem dX6_obey_31 : decode cX6_obey 31 = .ok (.iconst 2, 1) := by decide +kernel
theorem dX6_obey_32 : decode cX6_obey 32 = .ok (.invokevirtual 81, 3) := by decide +kernel
theorem dX6_obey_35 : decode cX6_obey 35 = .ok (.istore_n 3, 1) := by decide +kernel
theorem dX6_obey_36 : decode cX6_obey 36 = .ok (.aload_n 0, 1) := by decide +kernel
theorem dX6_obey_37 : decode cX6_obey 37 = .ok (.getfield 33, 3) := by decide +kernel
theorem dX6_obey_40 : decode cX6_obey 40 = .ok (.getfield 285, 3) := by decide +kernel
theorem dX6_obey_43 : decode cX6_obey 43 = .ok (.tableswitch 193 97 121 #[123, 193, 147, 193, 193, 193, 193, 193, 193, 193, 156, 193, 193, 175, 193, 113, 193, 193, 193, 193, 135, 185, 193, 193, 165], 113) := by decide +kernel
theorem dX6_obey_156 : decode cX6_obey 156 = .ok (.aload_n 0, 1) := by decide +kernel
theorem dX6_obey_157 : decode cX6_obey 157 = .ok (.getfield 16, 3) := by decide +kernel
theorem dX6_obey_160 : decode cX6_obey 160 = .ok (.iload_n 1, 1) := by decide +kernel
theorem dX6_obey_161 : decode cX6_obey 161 = .ok (.iload_n 2, 1) := by decide +kernel
theorem dX6_obey_162 : decode cX6_obey 162 = .ok (.invokevirtual 41, 3) := by decide +kernel
theorem dX6_obey_165 : decode cX6_obey 165 = .ok (.ireturn, 1) := by decide +kernel
theorem dX6_obey_166 : decode cX6_obey 166 = .ok (.aload_n 0, 1) := by decide +kernel
theorem dX6_obey_167 : decode cX6_obey 167 = .ok (.getfield 16, 3) := by decide +kernel
theorem dX6_obey_170 : decode cX6_obey 170 = .ok (.iload_n 1, 1) := by decide +kernel
theorem dX6_obey_171 : decode cX6_obey 171 = .ok (.iload_n 2, 1) := by decide +kernel
theorem dX6_obey_172 : decode cX6_obey 172 = .ok (.iconst 0, 1) := by decide +kernel
theorem dX6_obey_173 : decode cX6_obey 173 = .ok (.iload_n 3, 1) := by decide +kernel
theorem dX6_obey_174 : decode cX6_obey 174 = .ok (.invokevirtual 49, 3) := by decide +kernel
theorem dX6_obey_177 : decode cX6_obey 177 = .ok (.ireturn, 1) := by decide +kernel
theorem dX6_obey_178 : decode cX6_obey 178 = .ok (.aload_n 0, 1) := by decide +kernel
theorem dX6_obey_179 : decode cX6_obey 179 = .ok (.getfield 16, 3) := by decide +kernel
theorem dX6_obey_182 : decode cX6_obey 182 = .ok (.iload_n 1, 1) := by decide +kernel
theorem dX6_obey_183 : decode cX6_obey 183 = .ok (.iload_n 2, 1) := by decide +kernel
theorem dX6_obey_184 : decode cX6_obey 184 = .ok (.iconst 1, 1) := by decide +kernel
theorem dX6_obey_185 : decode cX6_obey 185 = .ok (.iload_n 3, 1) := by decide +kernel
theorem dX6_obey_186 : decode cX6_obey 186 = .ok (.invokevirtual 49, 3) := by decide +kernel
theorem dX6_obey_189 : decode cX6_obey 189 = .ok (.ireturn, 1) := by decide +kernel
theorem dX6_obey_190 : decode cX6_obey 190 = .ok (.aload_n 0, 1) := by decide +kernel
theorem dX6_obey_191 : decode cX6_obey 191 = .ok (.getfield 16, 3) := by decide +kernel
theorem dX6_obey_194 : decode cX6_obey 194 = .ok (.iload_n 1, 1) := by decide +kernel
theorem dX6_obey_195 : decode cX6_obey 195 = .ok (.invokevirtual 53, 3) := by decide +kernel
theorem dX6_obey_198 : decode cX6_obey 198 = .ok (.ireturn, 1) := by decide +kernel
theorem dX6_obey_199 : decode cX6_obey 199 = .ok (.aload_n 0, 1) := by decide +kernel
theorem dX6_obey_200 : decode cX6_obey 200 = .ok (.getfield 16, 3) := by decide +kernel
theorem dX6_obey_203 : decode cX6_obey 203 = .ok (.iload_n 1, 1) := by decide +kernel
theorem dX6_obey_204 : decode cX6_obey 204 = .ok (.invokevirtual 56, 3) := by decide +kernel
theorem dX6_obey_207 : decode cX6_obey 207 = .ok (.ireturn, 1) := by decide +kernel
theorem dX6_obey_208 : decode cX6_obey 208 = .ok (.aload_n 0, 1) := by decide +kernel
theorem dX6_obey_209 : decode cX6_obey 209 = .ok (.getfield 16, 3) := by decide +kernel
theorem dX6_obey_212 : decode cX6_obey 212 = .ok (.iload_n 1, 1) := by decide +kernel
theorem dX6_obey_213 : decode cX6_obey 213 = .ok (.iconst 1, 1) := by decide +kernel
theorem dX6_obey_214 : decode cX6_obey 214 = .ok (.invokevirtual 59, 3) := by decide +kernel
theorem dX6_obey_217 : decode cX6_obey 217 = .ok (.ireturn, 1) := by decide +kernel
theorem dX6_obey_218 : decode cX6_obey 218 = .ok (.aload_n 0, 1) := by decide +kernel
theorem dX6_obey_219 : decode cX6_obey 219 = .ok (.getfield 16, 3) := by decide +kernel
theorem dX6_obey_222 : decode cX6_obey 222 = .ok (.iload_n 1, 1) := by decide +kernel
theorem dX6_obey_223 : decode cX6_obey 223 = .ok (.iconst 0, 1) := by decide +kernel
theorem dX6_obey_224 : decode cX6_obey 224 = .ok (.invokevirtual 59, 3) := by decide +kernel
theorem dX6_obey_227 : decode cX6_obey 227 = .ok (.ireturn, 1) := by decide +kernel
theorem dX6_obey_228 : decode cX6_obey 228 = .ok (.aload_n 0, 1) := by decide +kernel
theorem dX6_obey_229 : decode cX6_obey 229 = .ok (.getfield 16, 3) := by decide +kernel
theorem dX6_obey_232 : decode cX6_obey 232 = .ok (.invokevirtual 65, 3) := by decide +kernel
theorem dX6_obey_235 : decode cX6_obey 235 = .ok (.ireturn, 1) := by decide +kernel
theorem dX6_obey_236 : decode cX6_obey 236 = .ok (.ldc 242, 2) := by decide +kernel
theorem dX6_obey_238 : decode cX6_obey 238 = .ok (.ireturn, 1) := by decide +kernel
theorem dX6_settle_0 : decode cX6_settle 0 = .ok (.iload_n 1, 1) := by decide +kernel
theorem dX6_settle_1 : decode cX6_settle 1 = .ok (.invokestatic 279, 3) := by decide +kernel
theorem dX6_settle_4 : decode cX6_settle 4 = .ok (.ifCond .ne 18, 3) := by decide +kernel
theorem dX6_settle_7 : decode cX6_settle 7 = .ok (.aload_n 0, 1) := by decide +kernel
theorem dX6_settle_8 : decode cX6_settle 8 = .ok (.invokevirtual 288, 3) := by decide +kernel
theorem dX6_settle_11 : decode cX6_settle 11 = .ok (.aload_n 0, 1) := by decide +kernel
theorem dX6_settle_12 : decode cX6_settle 12 = .ok (.getfield 10, 3) := by decide +kernel
theorem dX6_settle_15 : decode cX6_settle 15 = .ok (.aload_n 0, 1) := by decide +kernel
theorem dX6_settle_16 : decode cX6_settle 16 = .ok (.getfield 16, 3) := by decide +kernel
theorem dX6_settle_19 : decode cX6_settle 19 = .ok (.invokevirtual 37, 3) := by decide +kernel
theorem dX6_settle_22 : decode cX6_settle 22 = .ok (.iload_n 1, 1) := by decide +kernel
theorem dX6_settle_23 : decode cX6_settle 23 = .ok (.ireturn, 1) := by decide +kernel
theorem dX6_remember_0 : decode cX6_remember 0 = .ok (.aload_n 0, 1) := by decide +kernel
theorem dX6_remember_1 : decode cX6_remember 1 = .ok (.getfield 230, 3) := by decide +kernel
theorem dX6_remember_4 : decode cX6_remember 4 = .ok (.iconst 4, 1) := by decide +kernel
theorem dX6_remember_5 : decode cX6_remember 5 = .ok (.if_icmp .ne 25, 3) := by decide +kernel
theorem dX6_remember_8 : decode cX6_remember 8 = .ok (.aload_n 0, 1) := by decide +kernel
theorem dX6_remember_9 : decode cX6_remember 9 = .ok (.aload_n 0, 1) := by decide +kernel
theorem dX6_remember_10 : decode cX6_remember 10 = .ok (.getfield 291, 3) := by decide +kernel
theorem dX6_remember_13 : decode cX6_remember 13 = .ok (.iconst 1, 1) := by decide +kernel
theorem dX6_remember_14 : decode cX6_remember 14 = .ok (.iadd, 1) := by decide +kernel
theorem dX6_remember_15 : decode cX6_remember 15 = .ok (.iconst 4, 1) := by decide +kernel
theorem dX6_remember_16 : decode cX6_remember 16 = .ok (.irem, 1) := by decide +kernel
theorem dX6_remember_17 : decode cX6_remember 17 = .ok (.putfield 291, 3) := by decide +kernel
theorem dX6_remember_20 : decode cX6_remember 20 = .ok (.aload_n 0, 1) := by decide +kernel
theorem dX6_remember_21 : decode cX6_remember 21 = .ok (.dup, 1) := by decide +kernel
theorem dX6_remember_22 : decode cX6_remember 22 = .ok (.getfield 230, 3) := by decide +kernel
theorem dX6_remember_25 : decode cX6_remember 25 = .ok (.iconst 1, 1) := by decide +kernel
theorem dX6_remember_26 : decode cX6_remember 26 = .ok (.isub, 1) := by decide +kernel
theorem dX6_remember_27 : decode cX6_remember 27 = .ok (.putfield 230, 3) := by decide +kernel
theorem dX6_remember_30 : decode cX6_remember 30 = .ok (.aload_n 0, 1) := by decide +kernel
theorem dX6_remember_31 : decode cX6_remember 31 = .ok (.aload_n 0, 1) := by decide +kernel
theorem dX6_remember_32 : decode cX6_remember 32 = .ok (.getfield 230, 3) := by decide +kernel
theorem dX6_remember_35 : decode cX6_remember 35 = .ok (.invokevirtual 243, 3) := by decide +kernel
theorem dX6_remember_38 : decode cX6_remember 38 = .ok (.astore_n 1, 1) := by decide +kernel
theorem dX6_remember_39 : decode cX6_remember 39 = .ok (.aload_n 1, 1) := by decide +kernel
theorem dX6_remember_40 : decode cX6_remember 40 = .ok (.ifnull 11, 3) := by decide +kernel
theorem dX6_remember_43 : decode cX6_remember 43 = .ok (.aload_n 1, 1) := by decide +kernel
theorem dX6_remember_44 : decode cX6_remember 44 = .ok (.aload_n 0, 1) := by decide +kernel
theorem dX6_remember_45 : decode cX6_remember 45 = .ok (.getfield 10, 3) := by decide +kernel
theorem dX6_remember_48 : decode cX6_remember 48 = .ok (.invokevirtual 37, 3) := by decide +kernel
theorem dX6_remember_51 : decode cX6_remember 51 = .ok (.aload_n 0, 1) := by decide +kernel
theorem dX6_remember_52 : decode cX6_remember 52 = .ok (.dup, 1) := by decide +kernel
theorem dX6_remember_53 : decode cX6_remember 53 = .ok (.getfield 230, 3) := by decide +kernel
theorem dX6_remember_56 : decode cX6_remember 56 = .ok (.iconst 1, 1) := by decide +kernel
theorem dX6_remember_57 : decode cX6_remember 57 = .ok (.iadd, 1) := by decide +kernel
theorem dX6_remember_58 : decode cX6_remember 58 = .ok (.putfield 230, 3) := by decide +kernel
theorem dX6_remember_61 : decode cX6_remember 61 = .ok (.return_, 1) := by decide +kernel
theorem dX6_pastState_0 : decode cX6_pastState 0 = .ok (.aload_n 0, 1) := by decide +kernel
theorem dX6_pastState_1 : decode cX6_pastState 1 = .ok (.getfield 291, 3) := by decide +kernel
theorem dX6_pastState_4 : decode cX6_pastState 4 = .ok (.iload_n 1, 1) := by decide +kernel
theorem dX6_pastState_5 : decode cX6_pastState 5 = .ok (.iadd, 1) := by decide +kernel
theorem dX6_pastState_6 : decode cX6_pastState 6 = .ok (.iconst 4, 1) := by decide +kernel
theorem dX6_pastState_7 : decode cX6_pastState 7 = .ok (.irem, 1) := by decide +kernel
theorem dX6_pastState_8 : decode cX6_pastState 8 = .ok (.istore_n 2, 1) := by decide +kernel
theorem dX6_pastState_9 : decode cX6_pastState 9 = .ok (.iload_n 2, 1) := by decide +kernel
theorem dX6_pastState_10 : decode cX6_pastState 10 = .ok (.ifCond .lt 21, 3) := by decide +kernel
theorem dX6_pastState_13 : decode cX6_pastState 13 = .ok (.iload_n 2, 1) := by decide +kernel
theorem dX6_pastState_14 : decode cX6_pastState 14 = .ok (.aload_n 0, 1) := by decide +kernel
theorem dX6_pastState_15 : decode cX6_pastState 15 = .ok (.getfield 19, 3) := by decide +kernel
theorem dX6_pastState_18 : decode cX6_pastState 18 = .ok (.arraylength, 1) := by decide +kernel
theorem dX6_pastState_19 : decode cX6_pastState 19 = .ok (.if_icmp .ge 12, 3) := by decide +kernel
theorem dX6_pastState_22 : decode cX6_pastState 22 = .ok (.aload_n 0, 1) := by decide +kernel
theorem dX6_pastState_23 : decode cX6_pastState 23 = .ok (.getfield 19, 3) := by decide +kernel
theorem dX6_pastState_26 : decode cX6_pastState 26 = .ok (.iload_n 2, 1) := by decide +kernel
theorem dX6_pastState_27 : decode cX6_pastState 27 = .ok (.aaload, 1) := by decide +kernel
theorem dX6_pastState_28 : decode cX6_pastState 28 = .ok (.goto 4, 3) := by decide +kernel
theorem dX6_pastState_31 : decode cX6_pastState 31 = .ok (.aconst_null, 1) := by decide +kernel
theorem dX6_pastState_32 : decode cX6_pastState 32 = .ok (.areturn, 1) := by decide +kernel
theorem dX6_isError_0 : decode cX6_isError 0 = .ok (.iload_n 0, 1) := by decide +kernel
theorem dX6_isError_1 : decode cX6_isError 1 = .ok (.ifCond .ge 7, 3) := by decide +kernel
theorem dX6_isError_4 : decode cX6_isError 4 = .ok (.iconst 1, 1) := by decide +kernel
theorem dX6_isError_5 : decode cX6_isError 5 = .ok (.goto 4, 3) := by decide +kernel
theorem dX6_isError_8 : decode cX6_isError 8 = .ok (.iconst 0, 1) := by decide +kernel
theorem dX6_isError_9 : decode cX6_isError 9 = .ok (.ireturn, 1) := by decide +kernel
theorem dX6_isIn_0 : decode cX6_isIn 0 = .ok (.iload_n 0, 1) := by decide +kernel
theorem dX6_isIn_1 : decode cX6_isIn 1 = .ok (.iload_n 1, 1) := by decide +kernel
theorem dX6_isIn_2 : decode cX6_isIn 2 = .ok (.if_icmp .lt 12, 3) := by decide +kernel
theorem dX6_isIn_5 : decode cX6_isIn 5 = .ok (.iload_n 0, 1) := by decide +kernel
theorem dX6_isIn_6 : decode cX6_isIn 6 = .ok (.iload_n 2, 1) := by decide +kernel
theorem dX6_isIn_7 : decode cX6_isIn 7 = .ok (.if_icmp .gt 7, 3) := by decide +kernel
theorem dX6_isIn_10 : decode cX6_isIn 10 = .ok (.iconst 1, 1) := by decide +kernel
theorem dX6_isIn_11 : decode cX6_isIn 11 = .ok (.goto 4, 3) := by decide +kernel
theorem dX6_isIn_14 : decode cX6_isIn 14 = .ok (.iconst 0, 1) := by decide +kernel
theorem dX6_isIn_15 : decode cX6_isIn 15 = .ok (.ireturn, 1) := by decide +kernel
theorem dX6_isMember_0 : decode cX6_isMember 0 = .ok (.iload_n 0, 1) := by decide +kernel
theorem dX6_isMember_1 : decode cX6_isMember 1 = .ok (.iload_n 1, 1) := by decide +kernel
theorem dX6_isMember_2 : decode cX6_isMember 2 = .ok (.ishr, 1) := by decide +kernel
theorem dX6_isMember_3 : decode cX6_isMember 3 = .ok (.iconst 1, 1) := by decide +kernel
theorem dX6_isMember_4 : decode cX6_isMember 4 = .ok (.iand, 1) := by decide +kernel
theorem dX6_isMember_5 : decode cX6_isMember 5 = .ok (.iconst 1, 1) := by decide +kernel
theorem dX6_isMember_6 : decode cX6_isMember 6 = .ok (.if_icmp .ne 7, 3) := by decide +kernel
theorem dX6_isMember_9 : decode cX6_isMember 9 = .ok (.iconst 1, 1) := by decide +kernel
theorem dX6_isMember_10 : decode cX6_isMember 10 = .ok (.goto 4, 3) := by decide +kernel
theorem dX6_isMember_13 : decode cX6_isMember 13 = .ok (.iconst 0, 1) := by decide +kernel
theorem dX6_isMember_14 : decode cX6_isMember 14 = .ok (.ireturn, 1) := by decide +kernel
end
section
theorem dX7_init_0 : decode cX7_init 0 = .ok (.aload_n 0, 1) := by decide +kernel
theorem dX7_init_1 : decode cX7_init 1 = .ok (.invokespecial 1, 3) := by decide +kernel
theorem dX7_init_4 : decode cX7_init 4 = .ok (.aload_n 0, 1) := by decide +kernel
theorem dX7_init_5 : decode cX7_init 5 = .ok (.sipush 156, 3) := by decide +kernel
theorem dX7_init_8 : decode cX7_init 8 = .ok (.newarray .int, 2) := by decide +kernel
theorem dX7_init_10 : decode cX7_init 10 = .ok (.putfield 7, 3) := by decide +kernel
theorem dX7_init_13 : decode cX7_init 13 = .ok (.aload_n 0, 1) := by decide +kernel
theorem dX7_init_14 : decode cX7_init 14 = .ok (.sipush 624, 3) := by decide +kernel
theorem dX7_init_17 : decode cX7_init 17 = .ok (.newarray .int, 2) := by decide +kernel
theorem dX7_init_19 : decode cX7_init 19 = .ok (.putfield 13, 3) := by decide +kernel
theorem dX7_init_22 : decode cX7_init 22 = .ok (.aload_n 0, 1) := by decide +kernel
theorem dX7_init_23 : decode cX7_init 23 = .ok (.sipush 156, 3) := by decide +kernel
theorem dX7_init_26 : decode cX7_init 26 = .ok (.newarray .int, 2) := by decide +kernel
theorem dX7_init_28 : decode cX7_init 28 = .ok (.putfield 16, 3) := by decide +kernel
theorem dX7_init_31 : decode cX7_init 31 = .ok (.aload_n 0, 1) := by decide +kernel
theorem dX7_init_32 : decode cX7_init 32 = .ok (.bipush 60, 2) := by decide +kernel
theorem dX7_init_34 : decode cX7_init 34 = .ok (.newarray .int, 2) := by decide +kernel
theorem dX7_init_36 : decode cX7_init 36 = .ok (.putfield 19, 3) := by decide +kernel
theorem dX7_init_39 : decode cX7_init 39 = .ok (.aload_n 0, 1) := by decide +kernel
theorem dX7_init_40 : decode cX7_init 40 = .ok (.bipush 12, 2) := by decide +kernel
theorem dX7_init_42 : decode cX7_init 42 = .ok (.newarray .int, 2) := by decide +kernel
theorem dX7_init_44 : decode cX7_init 44 = .ok (.putfield 22, 3) := by decide +kernel
theorem dX7_init_47 : decode cX7_init 47 = .ok (.aload_n 0, 1) := by decide +kernel
theorem dX7_init_48 : decode cX7_init 48 = .ok (.bipush 12, 2) := by decide +kernel
theorem dX7_init_50 : decode cX7_init 50 = .ok (.newarray .int, 2) := by decide +kernel
theorem dX7_init_52 : decode cX7_init 52 = .ok (.putfield 25, 3) := by decide +kernel
theorem dX7_init_55 : decode cX7_init 55 = .ok (.aload_n 0, 1) := by decide +kernel
theorem dX7_init_56 : decode cX7_init 56 = .ok (.bipush 12, 2) := by decide +kernel
theorem dX7_init_58 : decode cX7_init 58 = .ok (.newarray .int, 2) := by decide +kernel
theorem dX7_init_60 : decode cX7_init 60 = .ok (.putfield 28, 3) := by decide +kernel
theorem dX7_init_63 : decode cX7_init 63 = .ok (.aload_n 0, 1) := by decide +kernel
theorem dX7_init_64 : decode cX7_init 64 = .ok (.bipush 12, 2) := by decide +kernel
theorem dX7_init_66 : decode cX7_init 66 = .ok (.newarray .int, 2) := by decide +kernel
theorem dX7_init_68 : decode cX7_init 68 = .ok (.putfield 31, 3) := by decide +kernel
theorem dX7_init_71 : decode cX7_init 71 = .ok (.aload_n 0, 1) := by decide +kernel
theorem dX7_init_72 : decode cX7_init 72 = .ok (.iconst 3, 1) := by decide +kernel
theorem dX7_init_73 : decode cX7_init 73 = .ok (.newarray .int, 2) := by decide +kernel
theorem dX7_init_75 : decode cX7_init 75 = .ok (.putfield 34, 3) := by decide +kernel
theorem dX7_init_78 : decode cX7_init 78 = .ok (.aload_n 0, 1) := by decide +kernel
theorem dX7_init_79 : decode cX7_init 79 = .ok (.getfield 7, 3) := by decide +kernel
theorem dX7_init_82 : decode cX7_init 82 = .ok (.sipush 155, 3) := by decide +kernel
theorem dX7_init_85 : decode cX7_init 85 = .ok (.iconst 3, 1) := by decide +kernel
theorem dX7_init_86 : decode cX7_init 86 = .ok (.iastore, 1) := by decide +kernel
theorem dX7_init_87 : decode cX7_init 87 = .ok (.return_, 1) := by decide +kernel
theorem dX7_in_0 : decode cX7_in 0 = .ok (.iload_n 0, 1) := by decide +kernel
theorem dX7_in_1 : decode cX7_in 1 = .ok (.iload_n 1, 1) := by decide +kernel
theorem dX7_in_2 : decode cX7_in 2 = .ok (.if_icmp .lt 12, 3) := by decide +kernel
theorem dX7_in_5 : decode cX7_in 5 = .ok (.iload_n 0, 1) := by decide +kernel
theorem dX7_in_6 : decode cX7_in 6 = .ok (.iload_n 2, 1) := by decide +kernel
theorem dX7_in_7 : decode cX7_in 7 = .ok (.if_icmp .gt 7, 3) := by decide +kernel
theorem dX7_in_10 : decode cX7_in 10 = .ok (.iconst 1, 1) := by decide +kernel
theorem dX7_in_11 : decode cX7_in 11 = .ok (.goto 4, 3) := by decide +kernel
theorem dX7_in_14 : decode cX7_in 14 = .ok (.iconst 0, 1) := by decide +kernel
theorem dX7_in_15 : decode cX7_in 15 = .ok (.ireturn, 1) := by decide +kernel
theorem dX7_copies_0 : decode cX7_copies 0 = .ok (.iconst 0, 1) := by decide +kernel
theorem dX7_copies_1 : decode cX7_copies 1 = .ok (.istore_n 2, 1) := by decide +kernel
theorem dX7_copies_2 : decode cX7_copies 2 = .ok (.iload_n 2, 1) := by decide +kernel
theorem dX7_copies_3 : decode cX7_copies 3 = .ok (.sipush 156, 3) := by decide +kernel
theorem dX7_copies_6 : decode cX7_copies 6 = .ok (.if_icmp .ge 15, 3) := by decide +kernel
theorem dX7_copies_9 : decode cX7_copies 9 = .ok (.aload_n 1, 1) := by decide +kernel
theorem dX7_copies_10 : decode cX7_copies 10 = .ok (.iload_n 2, 1) := by decide +kernel
theorem dX7_copies_11 : decode cX7_copies 11 = .ok (.aload_n 0, 1) := by decide +kernel
theorem dX7_copies_12 : decode cX7_copies 12 = .ok (.iload_n 2, 1) := by decide +kernel
theorem dX7_copies_13 : decode cX7_copies 13 = .ok (.iaload, 1) := by decide +kernel
theorem dX7_copies_14 : decode cX7_copies 14 = .ok (.iastore, 1) := by decide +kernel
theorem dX7_copies_15 : decode cX7_copies 15 = .ok (.iinc 2 1, 3) := by decide +kernel
theorem dX7_copies_18 : decode cX7_copies 18 = .ok (.goto (-16), 3) := by decide +kernel
theorem dX7_copies_21 : decode cX7_copies 21 = .ok (.return_, 1) := by decide +kernel
theorem dX7_changes_0 : decode cX7_changes 0 = .ok (.aload_n 0, 1) := by decide +kernel
theorem dX7_changes_1 : decode cX7_changes 1 = .ok (.getfield 37, 3) := by decide +kernel
theorem dX7_changes_4 : decode cX7_changes 4 = .ok (.ifCond .eq 4, 3) := by decide +kernel
theorem dX7_changes_7 : decode cX7_changes 7 = .ok (.return_, 1) := by decide +kernel
theorem dX7_changes_8 : decode cX7_changes 8 = .ok (.aload_n 0, 1) := by decide +kernel
theorem dX7_changes_9 : decode cX7_changes 9 = .ok (.getfield 41, 3) := by decide +kernel
theorem dX7_changes_12 : decode cX7_changes 12 = .ok (.iconst 4, 1) := by decide +kernel
theorem dX7_changes_13 : decode cX7_changes 13 = .ok (.if_icmp .ne 44, 3) := by decide +kernel
theorem dX7_changes_16 : decode cX7_changes 16 = .ok (.iconst 0, 1) := by decide +kernel
theorem dX7_changes_17 : decode cX7_changes 17 = .ok (.istore_n 1, 1) := by decide +kernel
theorem dX7_changes_18 : decode cX7_changes 18 = .ok (.iload_n 1, 1) := by decide +kernel
theorem dX7_changes_19 : decode cX7_changes 19 = .ok (.sipush 468, 3) := by decide +kernel
theorem dX7_changes_22 : decode cX7_changes 22 = .ok (.if_icmp .ge 25, 3) := by decide +kernel
theorem dX7_changes_25 : decode cX7_changes 25 = .ok (.aload_n 0, 1) := by decide +kernel
theorem dX7_changes_26 : decode cX7_changes 26 = .ok (.getfield 13, 3) := by decide +kernel
theorem dX7_changes_29 : decode cX7_changes 29 = .ok (.iload_n 1, 1) := by decide +kernel
theorem dX7_changes_30 : decode cX7_changes 30 = .ok (.aload_n 0, 1) := by decide +kernel
theorem dX7_changes_31 : decode cX7_changes 31 = .ok (.getfield 13, 3) := by decide +kernel
theorem dX7_changes_34 : decode cX7_changes 34 = .ok (.iload_n 1, 1) := by decide +kernel
theorem dX7_changes_35 : decode cX7_changes 35 = .ok (.sipush 156, 3) := by decide +kernel
theorem dX7_changes_38 : decode cX7_changes 38 = .ok (.iadd, 1) := by decide +kernel
theorem dX7_changes_39 : decode cX7_changes 39 = .ok (.iaload, 1) := by decide +kernel
theorem dX7_changes_40 : decode cX7_changes 40 = .ok (.iastore, 1) := by decide +kernel
theorem dX7_changes_41 : decode cX7_changes 41 = .ok (.iinc 1 1, 3) := by decide +kernel
theorem dX7_changes_44 : decode cX7_changes 44 = .ok (.goto (-26), 3) := by decide +kernel
theorem dX7_changes_47 : decode cX7_changes 47 = .ok (.aload_n 0, 1) := by decide +kernel
theorem dX7_changes_48 : decode cX7_changes 48 = .ok (.dup, 1) := by decide +kernel
theorem dX7_changes_49 : decode cX7_changes 49 = .ok (.getfield 41, 3) := by decide +kernel
theorem dX7_changes_52 : decode cX7_changes 52 = .ok (.iconst 1, 1) := by decide +kernel
theorem dX7_changes_53 : decode cX7_changes 53 = .ok (.isub, 1) := by decide +kernel
theorem dX7_changes_54 : decode cX7_changes 54 = .ok (.putfield 41, 3) := by decide +kernel
theorem dX7_changes_57 : decode cX7_changes 57 = .ok (.iconst 0, 1) := by decide +kernel
theorem dX7_changes_58 : decode cX7_changes 58 = .ok (.istore_n 1, 1) := by decide +kernel
theorem dX7_changes_59 : decode cX7_changes 59 = .ok (.iload_n 1, 1) := by decide +kernel
theorem dX7_changes_60 : decode cX7_changes 60 = .ok (.sipush 156, 3) := by decide +kernel
theorem dX7_changes_63 : decode cX7_changes 63 = .ok (.if_icmp .ge 30, 3) := by decide +kernel
theorem dX7_changes_66 : decode cX7_changes 66 = .ok (.aload_n 0, 1) := by decide +kernel
theorem dX7_changes_67 : decode cX7_changes 67 = .ok (.getfield 13, 3) := by decide +kernel
theorem dX7_changes_70 : decode cX7_changes 70 = .ok (.sipush 156, 3) := by decide +kernel
theorem dX7_changes_73 : decode cX7_changes 73 = .ok (.aload_n 0, 1) := by decide +kernel
theorem dX7_changes_74 : decode cX7_changes 74 = .ok (.getfield 41, 3) := by decide +kernel
theorem dX7_changes_77 : decode cX7_changes 77 = .ok (.imul, 1) := by decide +kernel
theorem dX7_changes_78 : decode cX7_changes 78 = .ok (.iload_n 1, 1) := by decide +kernel
theorem dX7_changes_79 : decode cX7_changes 79 = .ok (.iadd, 1) := by decide +kernel
theorem dX7_changes_80 : decode cX7_changes 80 = .ok (.aload_n 0, 1) := by decide +kernel
theorem dX7_changes_81 : decode cX7_changes 81 = .ok (.getfield 7, 3) := by decide +kernel
theorem dX7_changes_84 : decode cX7_changes 84 = .ok (.iload_n 1, 1) := by decide +kernel
theorem dX7_changes_85 : decode cX7_changes 85 = .ok (.iaload, 1) := by decide +kernel
theorem dX7_changes_86 : decode cX7_changes 86 = .ok (.iastore, 1) := by decide +kernel
theorem dX7_changes_87 : decode cX7_changes 87 = .ok (.iinc 1 1, 3) := by decide +kernel
theorem dX7_changes_90 : decode cX7_changes 90 = .ok (.goto (-31), 3) := by decide +kernel
theorem dX7_changes_93 : decode cX7_changes 93 = .ok (.aload_n 0, 1) := by decide +kernel
theorem dX7_changes_94 : decode cX7_changes 94 = .ok (.dup, 1) := by decide +kernel
theorem dX7_changes_95 : decode cX7_changes 95 = .ok (.getfield 41, 3) := by decide +kernel
theorem dX7_changes_98 : decode cX7_changes 98 = .ok (.iconst 1, 1) := by decide +kernel
theorem dX7_changes_99 : decode cX7_changes 99 = .ok (.iadd, 1) := by decide +kernel
theorem dX7_changes_100 : decode cX7_changes 100 = .ok (.putfield 41, 3) := by decide +kernel
theorem dX7_changes_103 : decode cX7_changes 103 = .ok (.return_, 1) := by decide +kernel
theorem dX7_of_0 : decode cX7_of 0 = .ok (.aload_n 0, 1) := by decide +kernel
theorem dX7_of_1 : decode cX7_of 1 = .ok (.getfield 7, 3) := by decide +kernel
theorem dX7_of_4 : decode cX7_of 4 = .ok (.iconst 3, 1) := by decide +kernel
theorem dX7_of_5 : decode cX7_of 5 = .ok (.iload_n 1, 1) := by decide +kernel
theorem dX7_of_6 : decode cX7_of 6 = .ok (.imul, 1) := by decide +kernel
theorem dX7_of_7 : decode cX7_of 7 = .ok (.iload_n 2, 1) := by decide +kernel
theorem dX7_of_8 : decode cX7_of 8 = .ok (.iadd, 1) := by decide +kernel
theorem dX7_of_9 : decode cX7_of 9 = .ok (.iaload, 1) := by decide +kernel
theorem dX7_of_10 : decode cX7_of 10 = .ok (.ireturn, 1) := by decide +kernel
theorem dX7_tied_0 : decode cX7_tied 0 = .ok (.aload_n 0, 1) := by decide +kernel
theorem dX7_tied_1 : decode cX7_tied 1 = .ok (.getfield 7, 3) := by decide +kernel
theorem dX7_tied_4 : decode cX7_tied 4 = .ok (.bipush 36, 2) := by decide +kernel
theorem dX7_tied_6 : decode cX7_tied 6 = .ok (.iconst 4, 1) := by decide +kernel
theorem dX7_tied_7 : decode cX7_tied 7 = .ok (.iload_n 1, 1) := by decide +kernel
theorem dX7_tied_8 : decode cX7_tied 8 = .ok (.imul, 1) := by decide +kernel
theorem dX7_tied_9 : decode cX7_tied 9 = .ok (.iadd, 1) := by decide +kernel
theorem dX7_tied_10 : decode cX7_tied 10 = .ok (.iload_n 2, 1) := by decide +kernel
theorem dX7_tied_11 : decode cX7_tied 11 = .ok (.iadd, 1) := by decide +kernel
theorem dX7_tied_12 : decode cX7_tied 12 = .ok (.iaload, 1) := by decide +kernel
theorem dX7_tied_13 : decode cX7_tied 13 = .ok (.ireturn, 1) := by decide +kernel
theorem dX7_isPuppet_0 : decode cX7_isPuppet 0 = .ok (.iload_n 1, 1) := by decide +kernel
theorem dX7_isPuppet_1 : decode cX7_isPuppet 1 = .ok (.iconst 0, 1) := by decide +kernel
theorem dX7_isPuppet_2 : decode cX7_isPuppet 2 = .ok (.aload_n 0, 1) := by decide +kernel
theorem dX7_isPuppet_3 : decode cX7_isPuppet 3 = .ok (.getfield 7, 3) := by decide +kernel
theorem dX7_isPuppet_6 : decode cX7_isPuppet 6 = .ok (.sipush 148, 3) := by decide +kernel
theorem dX7_isPuppet_9 : decode cX7_isPuppet 9 = .ok (.iaload, 1) := by decide +kernel
theorem dX7_isPuppet_10 : decode cX7_isPuppet 10 = .ok (.iconst 1, 1) := by decide +kernel
theorem dX7_isPuppet_11 : decode cX7_isPuppet 11 = .ok (.isub, 1) := by decide +kernel
theorem dX7_isPuppet_12 : decode cX7_isPuppet 12 = .ok (.invokestatic 45, 3) := by decide +kernel
theorem dX7_isPuppet_15 : decode cX7_isPuppet 15 = .ok (.ireturn, 1) := by decide +kernel
theorem dX7_isString_0 : decode cX7_isString 0 = .ok (.iload_n 1, 1) := by decide +kernel
theorem dX7_isString_1 : decode cX7_isString 1 = .ok (.iconst 0, 1) := by decide +kernel
theorem dX7_isString_2 : decode cX7_isString 2 = .ok (.aload_n 0, 1) := by decide +kernel
theorem dX7_isString_3 : decode cX7_isString 3 = .ok (.getfield 7, 3) := by decide +kernel
theorem dX7_isString_6 : decode cX7_isString 6 = .ok (.sipush 149, 3) := by decide +kernel
theorem dX7_isString_9 : decode cX7_isString 9 = .ok (.iaload, 1) := by decide +kernel
theorem dX7_isString_10 : decode cX7_isString 10 = .ok (.iconst 1, 1) := by decide +kernel
theorem dX7_isString_11 : decode cX7_isString 11 = .ok (.isub, 1) := by decide +kernel
theorem dX7_isString_12 : decode cX7_isString 12 = .ok (.invokestatic 45, 3) := by decide +kernel
theorem dX7_isString_15 : decode cX7_isString 15 = .ok (.ireturn, 1) := by decide +kernel
theorem dX7_isPair_0 : decode cX7_isPair 0 = .ok (.aload_n 0, 1) := by decide +kernel
theorem dX7_isPair_1 : decode cX7_isPair 1 = .ok (.iload_n 1, 1) := by decide +kernel
theorem dX7_isPair_2 : decode cX7_isPair 2 = .ok (.invokevirtual 49, 3) := by decide +kernel
theorem dX7_isPair_5 : decode cX7_isPair 5 = .ok (.ifCond .eq 20, 3) := by decide +kernel
theorem dX7_isPair_8 : decode cX7_isPair 8 = .ok (.aload_n 0, 1) := by decide +kernel
theorem dX7_isPair_9 : decode cX7_isPair 9 = .ok (.iload_n 2, 1) := by decide +kernel
theorem dX7_isPair_10 : decode cX7_isPair 10 = .ok (.invokevirtual 49, 3) := by decide +kernel
theorem dX7_isPair_13 : decode cX7_isPair 13 = .ok (.ifCond .eq 12, 3) := by decide +kernel
theorem dX7_isPair_16 : decode cX7_isPair 16 = .ok (.iload_n 1, 1) := by decide +kernel
theorem dX7_isPair_17 : decode cX7_isPair 17 = .ok (.iload_n 2, 1) := by decide +kernel
theorem dX7_isPair_18 : decode cX7_isPair 18 = .ok (.if_icmp .eq 7, 3) := by decide +kernel
theorem dX7_isPair_21 : decode cX7_isPair 21 = .ok (.iconst 1, 1) := by decide +kernel
theorem dX7_isPair_22 : decode cX7_isPair 22 = .ok (.goto 4, 3) := by decide +kernel
theorem dX7_isPair_25 : decode cX7_isPair 25 = .ok (.iconst 0, 1) := by decide +kernel
theorem dX7_isPair_26 : decode cX7_isPair 26 = .ok (.ireturn, 1) := by decide +kernel
theorem dX7_looks_0 : decode cX7_looks 0 = .ok (.iconst 0, 1) := by decide +kernel
theorem dX7_looks_1 : decode cX7_looks 1 = .ok (.istore_n 2, 1) := by decide +kernel
theorem dX7_looks_2 : decode cX7_looks 2 = .ok (.iload_n 2, 1) := by decide +kernel
theorem dX7_looks_3 : decode cX7_looks 3 = .ok (.aload_n 0, 1) := by decide +kernel
theorem dX7_looks_4 : decode cX7_looks 4 = .ok (.getfield 7, 3) := by decide +kernel
theorem dX7_looks_7 : decode cX7_looks 7 = .ok (.sipush 148, 3) := by decide +kernel
theorem dX7_looks_10 : decode cX7_looks 10 = .ok (.iaload, 1) := by decide +kernel
theorem dX7_looks_11 : decode cX7_looks 11 = .ok (.if_icmp .ge 23, 3) := by decide +kernel
theorem dX7_looks_14 : decode cX7_looks 14 = .ok (.aload_n 0, 1) := by decide +kernel
theorem dX7_looks_15 : decode cX7_looks 15 = .ok (.getfield 22, 3) := by decide +kernel
theorem dX7_looks_18 : decode cX7_looks 18 = .ok (.iload_n 2, 1) := by decide +kernel
theorem dX7_looks_19 : decode cX7_looks 19 = .ok (.iload_n 2, 1) := by decide +kernel
theorem dX7_looks_20 : decode cX7_looks 20 = .ok (.iastore, 1) := by decide +kernel
theorem dX7_looks_21 : decode cX7_looks 21 = .ok (.aload_n 0, 1) := by decide +kernel
theorem dX7_looks_22 : decode cX7_looks 22 = .ok (.getfield 25, 3) := by decide +kernel
theorem dX7_looks_25 : decode cX7_looks 25 = .ok (.iload_n 2, 1) := by decide +kernel
theorem dX7_looks_26 : decode cX7_looks 26 = .ok (.iconst 0, 1) := by decide +kernel
theorem dX7_looks_27 : decode cX7_looks 27 = .ok (.iastore, 1) := by decide +kernel
theorem dX7_looks_28 : decode cX7_looks 28 = .ok (.iinc 2 1, 3) := by decide +kernel
theorem dX7_looks_31 : decode cX7_looks 31 = .ok (.goto (-29), 3) := by decide +kernel
theorem dX7_looks_34 : decode cX7_looks 34 = .ok (.iconst 1, 1) := by decide +kernel
theorem dX7_looks_35 : decode cX7_looks 35 = .ok (.istore_n 2, 1) := by decide +kernel
theorem dX7_looks_36 : decode cX7_looks 36 = .ok (.iload_n 2, 1) := by decide +kernel
theorem dX7_looks_37 : decode cX7_looks 37 = .ok (.ifCond .eq 68, 3) := by decide +kernel
theorem dX7_looks_40 : decode cX7_looks 40 = .ok (.iconst 0, 1) := by decide +kernel
theorem dX7_looks_41 : decode cX7_looks 41 = .ok (.istore_n 2, 1) := by decide +kernel
theorem dX7_looks_42 : decode cX7_looks 42 = .ok (.iconst 0, 1) := by decide +kernel
theorem dX7_looks_43 : decode cX7_looks 43 = .ok (.istore_n 3, 1) := by decide +kernel
theorem dX7_looks_44 : decode cX7_looks 44 = .ok (.iload_n 3, 1) := by decide +kernel
theorem dX7_looks_45 : decode cX7_looks 45 = .ok (.aload_n 0, 1) := by decide +kernel
theorem dX7_looks_46 : decode cX7_looks 46 = .ok (.getfield 7, 3) := by decide +kernel
theorem dX7_looks_49 : decode cX7_looks 49 = .ok (.sipush 149, 3) := by decide +kernel
theorem dX7_looks_52 : decode cX7_looks 52 = .ok (.iaload, 1) := by decide +kernel
theorem dX7_looks_53 : decode cX7_looks 53 = .ok (.if_icmp .ge 49, 3) := by decide +kernel
theorem dX7_looks_56 : decode cX7_looks 56 = .ok (.iload_n 3, 1) := by decide +kernel
theorem dX7_looks_57 : decode cX7_looks 57 = .ok (.iload_n 1, 1) := by decide +kernel
theorem dX7_looks_58 : decode cX7_looks 58 = .ok (.if_icmp .eq 28, 3) := by decide +kernel
theorem dX7_looks_61 : decode cX7_looks 61 = .ok (.aload_n 0, 1) := by decide +kernel
theorem dX7_looks_62 : decode cX7_looks 62 = .ok (.aload_n 0, 1) := by decide +kernel
theorem dX7_looks_63 : decode cX7_looks 63 = .ok (.iload_n 3, 1) := by decide +kernel
theorem dX7_looks_64 : decode cX7_looks 64 = .ok (.iconst 0, 1) := by decide +kernel
theorem dX7_looks_65 : decode cX7_looks 65 = .ok (.invokevirtual 53, 3) := by decide +kernel
theorem dX7_looks_68 : decode cX7_looks 68 = .ok (.aload_n 0, 1) := by decide +kernel
theorem dX7_looks_69 : decode cX7_looks 69 = .ok (.iload_n 3, 1) := by decide +kernel
theorem dX7_looks_70 : decode cX7_looks 70 = .ok (.iconst 1, 1) := by decide +kernel
theorem dX7_looks_71 : decode cX7_looks 71 = .ok (.invokevirtual 53, 3) := by decide +kernel
theorem dX7_looks_74 : decode cX7_looks 74 = .ok (.aload_n 0, 1) := by decide +kernel
theorem dX7_looks_75 : decode cX7_looks 75 = .ok (.iload_n 3, 1) := by decide +kernel
theorem dX7_looks_76 : decode cX7_looks 76 = .ok (.iconst 2, 1) := by decide +kernel
theorem dX7_looks_77 : decode cX7_looks 77 = .ok (.invokevirtual 53, 3) := by decide +kernel
theorem dX7_looks_80 : decode cX7_looks 80 = .ok (.invokevirtual 57, 3) := by decide +kernel
theorem dX7_looks_83 : decode cX7_looks 83 = .ok (.ifCond .ne 7, 3) := by decide +kernel
theorem dX7_looks_86 : decode cX7_looks 86 = .ok (.iload_n 2, 1) := by decide +kernel
theorem dX7_looks_87 : decode cX7_looks 87 = .ok (.ifCond .eq 7, 3) := by decide +kernel
theorem dX7_looks_90 : decode cX7_looks 90 = .ok (.iconst 1, 1) := by decide +kernel
theorem dX7_looks_91 : decode cX7_looks 91 = .ok (.goto 4, 3) := by decide +kernel
theorem dX7_looks_94 : decode cX7_looks 94 = .ok (.iconst 0, 1) := by decide +kernel
theorem dX7_looks_95 : decode cX7_looks 95 = .ok (.istore_n 2, 1) := by decide +kernel
theorem dX7_looks_96 : decode cX7_looks 96 = .ok (.iinc 3 1, 3) := by decide +kernel
theorem dX7_looks_99 : decode cX7_looks 99 = .ok (.goto (-55), 3) := by decide +kernel
theorem dX7_looks_102 : decode cX7_looks 102 = .ok (.goto (-66), 3) := by decide +kernel
theorem dX7_looks_105 : decode cX7_looks 105 = .ok (.return_, 1) := by decide +kernel
theorem dX7_isJoined_0 : decode cX7_isJoined 0 = .ok (.aload_n 0, 1) := by decide +kernel
theorem dX7_isJoined_1 : decode cX7_isJoined 1 = .ok (.getfield 22, 3) := by decide +kernel
theorem dX7_isJoined_4 : decode cX7_isJoined 4 = .ok (.iload_n 1, 1) := by decide +kernel
theorem dX7_isJoined_5 : decode cX7_isJoined 5 = .ok (.iaload, 1) := by decide +kernel
theorem dX7_isJoined_6 : decode cX7_isJoined 6 = .ok (.aload_n 0, 1) := by decide +kernel
theorem dX7_isJoined_7 : decode cX7_isJoined 7 = .ok (.getfield 22, 3) := by decide +kernel
theorem dX7_isJoined_10 : decode cX7_isJoined 10 = .ok (.iload_n 2, 1) := by decide +kernel
theorem dX7_isJoined_11 : decode cX7_isJoined 11 = .ok (.iaload, 1) := by decide +kernel
theorem dX7_isJoined_12 : decode cX7_isJoined 12 = .ok (.if_icmp .ne 5, 3) := by decide +kernel
theorem dX7_isJoined_15 : decode cX7_isJoined 15 = .ok (.iconst 0, 1) := by decide +kernel
theorem dX7_isJoined_16 : decode cX7_isJoined 16 = .ok (.ireturn, 1) := by decide +kernel
theorem dX7_isJoined_17 : decode cX7_isJoined 17 = .ok (.aload_n 0, 1) := by decide +kernel
theorem dX7_isJoined_18 : decode cX7_isJoined 18 = .ok (.getfield 22, 3) := by decide +kernel
theorem dX7_isJoined_21 : decode cX7_isJoined 21 = .ok (.iload_n 1, 1) := by decide +kernel
theorem dX7_isJoined_22 : decode cX7_isJoined 22 = .ok (.iaload, 1) := by decide +kernel
theorem dX7_isJoined_23 : decode cX7_isJoined 23 = .ok (.aload_n 0, 1) := by decide +kernel
theorem dX7_isJoined_24 : decode cX7_isJoined 24 = .ok (.getfield 22, 3) := by decide +kernel
theorem dX7_isJoined_27 : decode cX7_isJoined 27 = .ok (.iload_n 2, 1) := by decide +kernel
theorem dX7_isJoined_28 : decode cX7_isJoined 28 = .ok (.iaload, 1) := by decide +kernel
theorem dX7_isJoined_29 : decode cX7_isJoined 29 = .ok (.if_icmp .ge 7, 3) := by decide +kernel
theorem dX7_isJoined_32 : decode cX7_isJoined 32 = .ok (.iload_n 1, 1) := by decide +kernel
theorem dX7_isJoined_33 : decode cX7_isJoined 33 = .ok (.goto 4, 3) := by decide +kernel
theorem dX7_isJoined_36 : decode cX7_isJoined 36 = .ok (.iload_n 2, 1) := by decide +kernel
theorem dX7_isJoined_37 : decode cX7_isJoined 37 = .ok (.istore 4, 2) := by decide +kernel
theorem dX7_isJoined_39 : decode cX7_isJoined 39 = .ok (.iload 4, 2) := by decide +kernel
theorem dX7_isJoined_41 : decode cX7_isJoined 41 = .ok (.iload_n 1, 1) := by decide +kernel
theorem dX7_isJoined_42 : decode cX7_isJoined 42 = .ok (.if_icmp .ne 7, 3) := by decide +kernel
theorem dX7_isJoined_45 : decode cX7_isJoined 45 = .ok (.iload_n 2, 1) := by decide +kernel
theorem dX7_isJoined_46 : decode cX7_isJoined 46 = .ok (.goto 4, 3) := by decide +kernel
theorem dX7_isJoined_49 : decode cX7_isJoined 49 = .ok (.iload_n 1, 1) := by decide +kernel
theorem dX7_isJoined_50 : decode cX7_isJoined 50 = .ok (.istore 5, 2) := by decide +kernel
theorem dX7_isJoined_52 : decode cX7_isJoined 52 = .ok (.aload_n 0, 1) := by decide +kernel
theorem dX7_isJoined_53 : decode cX7_isJoined 53 = .ok (.getfield 22, 3) := by decide +kernel
theorem dX7_isJoined_56 : decode cX7_isJoined 56 = .ok (.iload 5, 2) := by decide +kernel
theorem dX7_isJoined_58 : decode cX7_isJoined 58 = .ok (.aload_n 0, 1) := by decide +kernel
theorem dX7_isJoined_59 : decode cX7_isJoined 59 = .ok (.getfield 22, 3) := by decide +kernel
theorem dX7_isJoined_62 : decode cX7_isJoined 62 = .ok (.iload 4, 2) := by decide +kernel
theorem dX7_isJoined_64 : decode cX7_isJoined 64 = .ok (.iaload, 1) := by decide +kernel
theorem dX7_isJoined_65 : decode cX7_isJoined 65 = .ok (.iastore, 1) := by decide +kernel
theorem dX7_isJoined_66 : decode cX7_isJoined 66 = .ok (.aload_n 0, 1) := by decide +kernel
theorem dX7_isJoined_67 : decode cX7_isJoined 67 = .ok (.getfield 25, 3) := by decide +kernel
theorem dX7_isJoined_70 : decode cX7_isJoined 70 = .ok (.iload 5, 2) := by decide +kernel
theorem dX7_isJoined_72 : decode cX7_isJoined 72 = .ok (.aload_n 0, 1) := by decide +kernel
theorem dX7_isJoined_73 : decode cX7_isJoined 73 = .ok (.getfield 25, 3) := by decide +kernel
theorem dX7_isJoined_76 : decode cX7_isJoined 76 = .ok (.iload 4, 2) := by decide +kernel
theorem dX7_isJoined_78 : decode cX7_isJoined 78 = .ok (.iaload, 1) := by decide +kernel
theorem dX7_isJoined_79 : decode cX7_isJoined 79 = .ok (.iload_n 3, 1) := by decide +kernel
theorem dX7_isJoined_80 : decode cX7_isJoined 80 = .ok (.ixor, 1) := by decide +kernel
theorem dX7_isJoined_81 : decode cX7_isJoined 81 = .ok (.iastore, 1) := by decide +kernel
theorem dX7_isJoined_82 : decode cX7_isJoined 82 = .ok (.iconst 1, 1) := by decide +kernel
theorem dX7_isJoined_83 : decode cX7_isJoined 83 = .ok (.ireturn, 1) := by decide +kernel
theorem dX7_pulled_0 : decode cX7_pulled 0 = .ok (.ldc 60, 2) := by decide +kernel
theorem dX7_pulled_2 : decode cX7_pulled 2 = .ok (.istore_n 3, 1) := by decide +kernel
theorem dX7_pulled_3 : decode cX7_pulled 3 = .ok (.iconst 0, 1) := by decide +kernel
theorem dX7_pulled_4 : decode cX7_pulled 4 = .ok (.istore 4, 2) := by decide +kernel
theorem dX7_pulled_6 : decode cX7_pulled 6 = .ok (.iload 4, 2) := by decide +kernel
theorem dX7_pulled_8 : decode cX7_pulled 8 = .ok (.aload_n 0, 1) := by decide +kernel
theorem dX7_pulled_9 : decode cX7_pulled 9 = .ok (.getfield 7, 3) := by decide +kernel
theorem dX7_pulled_12 : decode cX7_pulled 12 = .ok (.sipush 148, 3) := by decide +kernel
theorem dX7_pulled_15 : decode cX7_pulled 15 = .ok (.iaload, 1) := by decide +kernel
theorem dX7_pulled_16 : decode cX7_pulled 16 = .ok (.if_icmp .ge 58, 3) := by decide +kernel
theorem dX7_pulled_19 : decode cX7_pulled 19 = .ok (.aload_n 0, 1) := by decide +kernel
theorem dX7_pulled_20 : decode cX7_pulled 20 = .ok (.getfield 22, 3) := by decide +kernel
theorem dX7_pulled_23 : decode cX7_pulled 23 = .ok (.iload 4, 2) := by decide +kernel
theorem dX7_pulled_25 : decode cX7_pulled 25 = .ok (.iaload, 1) := by decide +kernel
theorem dX7_pulled_26 : decode cX7_pulled 26 = .ok (.iload_n 1, 1) := by decide +kernel
theorem dX7_pulled_27 : decode cX7_pulled 27 = .ok (.if_icmp .ne 39, 3) := by decide +kernel
theorem dX7_pulled_30 : decode cX7_pulled 30 = .ok (.iload 4, 2) := by decide +kernel
theorem dX7_pulled_32 : decode cX7_pulled 32 = .ok (.iload_n 2, 1) := by decide +kernel
theorem dX7_pulled_33 : decode cX7_pulled 33 = .ok (.if_icmp .eq 33, 3) := by decide +kernel
theorem dX7_pulled_36 : decode cX7_pulled 36 = .ok (.aload_n 0, 1) := by decide +kernel
theorem dX7_pulled_37 : decode cX7_pulled 37 = .ok (.iload 4, 2) := by decide +kernel
theorem dX7_pulled_39 : decode cX7_pulled 39 = .ok (.iconst 2, 1) := by decide +kernel
theorem dX7_pulled_40 : decode cX7_pulled 40 = .ok (.invokevirtual 61, 3) := by decide +kernel
theorem dX7_pulled_43 : decode cX7_pulled 43 = .ok (.ifCond .le 23, 3) := by decide +kernel
theorem dX7_pulled_46 : decode cX7_pulled 46 = .ok (.aload_n 0, 1) := by decide +kernel
theorem dX7_pulled_47 : decode cX7_pulled 47 = .ok (.iload 4, 2) := by decide +kernel
theorem dX7_pulled_49 : decode cX7_pulled 49 = .ok (.iconst 2, 1) := by decide +kernel
theorem dX7_pulled_50 : decode cX7_pulled 50 = .ok (.invokevirtual 61, 3) := by decide +kernel
theorem dX7_pulled_53 : decode cX7_pulled 53 = .ok (.iconst 1, 1) := by decide +kernel
theorem dX7_pulled_54 : decode cX7_pulled 54 = .ok (.isub, 1) := by decide +kernel
theorem dX7_pulled_55 : decode cX7_pulled 55 = .ok (.aload_n 0, 1) := by decide +kernel
theorem dX7_pulled_56 : decode cX7_pulled 56 = .ok (.getfield 25, 3) := by decide +kernel
theorem dX7_pulled_59 : decode cX7_pulled 59 = .ok (.iload 4, 2) := by decide +kernel
theorem dX7_pulled_61 : decode cX7_pulled 61 = .ok (.iaload, 1) := by decide +kernel
theorem dX7_pulled_62 : decode cX7_pulled 62 = .ok (.ixor, 1) := by decide +kernel
theorem dX7_pulled_63 : decode cX7_pulled 63 = .ok (.goto 4, 3) := by decide +kernel
theorem dX7_pulled_66 : decode cX7_pulled 66 = .ok (.iload_n 3, 1) := by decide +kernel
theorem dX7_pulled_67 : decode cX7_pulled 67 = .ok (.istore_n 3, 1) := by decide +kernel
theorem dX7_pulled_68 : decode cX7_pulled 68 = .ok (.iinc 4 1, 3) := by decide +kernel
theorem dX7_pulled_71 : decode cX7_pulled 71 = .ok (.goto (-65), 3) := by decide +kernel
theorem dX7_pulled_74 : decode cX7_pulled 74 = .ok (.iload_n 3, 1) := by decide +kernel
theorem dX7_pulled_75 : decode cX7_pulled 75 = .ok (.ireturn, 1) := by decide +kernel
theorem dX7_byLeanings_0 : decode cX7_byLeanings 0 = .ok (.iconst 0, 1) := by decide +kernel
theorem dX7_byLeanings_1 : decode cX7_byLeanings 1 = .ok (.istore_n 2, 1) := by decide +kernel
theorem dX7_byLeanings_2 : decode cX7_byLeanings 2 = .ok (.iconst 0, 1) := by decide +kernel
theorem dX7_byLeanings_3 : decode cX7_byLeanings 3 = .ok (.istore_n 3, 1) := by decide +kernel
theorem dX7_byLeanings_4 : decode cX7_byLeanings 4 = .ok (.iconst 0, 1) := by decide +kernel
theorem dX7_byLeanings_5 : decode cX7_byLeanings 5 = .ok (.istore 4, 2) := by decide +kernel
theorem dX7_byLeanings_7 : decode cX7_byLeanings 7 = .ok (.iload 4, 2) := by decide +kernel
theorem dX7_byLeanings_9 : decode cX7_byLeanings 9 = .ok (.aload_n 0, 1) := by decide +kernel
theorem dX7_byLeanings_10 : decode cX7_byLeanings 10 = .ok (.getfield 7, 3) := by decide +kernel
theorem dX7_byLeanings_13 : decode cX7_byLeanings 13 = .ok (.sipush 148, 3) := by decide +kernel
theorem dX7_byLeanings_16 : decode cX7_byLeanings 16 = .ok (.iaload, 1) := by decide +kernel
theorem dX7_byLeanings_17 : decode cX7_byLeanings 17 = .ok (.if_icmp .ge 85, 3) := by decide +kernel
theorem dX7_byLeanings_20 : decode cX7_byLeanings 20 = .ok (.aload_n 0, 1) := by decide +kernel
theorem dX7_byLeanings_21 : decode cX7_byLeanings 21 = .ok (.getfield 22, 3) := by decide +kernel
theorem dX7_byLeanings_24 : decode cX7_byLeanings 24 = .ok (.iload 4, 2) := by decide +kernel
theorem dX7_byLeanings_26 : decode cX7_byLeanings 26 = .ok (.iaload, 1) := by decide +kernel
theorem dX7_byLeanings_27 : decode cX7_byLeanings 27 = .ok (.iload_n 1, 1) := by decide +kernel
theorem dX7_byLeanings_28 : decode cX7_byLeanings 28 = .ok (.if_icmp .ne 13, 3) := by decide +kernel
theorem dX7_byLeanings_31 : decode cX7_byLeanings 31 = .ok (.aload_n 0, 1) := by decide +kernel
theorem dX7_byLeanings_32 : decode cX7_byLeanings 32 = .ok (.iload 4, 2) := by decide +kernel
theorem dX7_byLeanings_34 : decode cX7_byLeanings 34 = .ok (.iconst 0, 1) := by decide +kernel
theorem dX7_byLeanings_35 : decode cX7_byLeanings 35 = .ok (.invokevirtual 61, 3) := by decide +kernel
theorem dX7_byLeanings_38 : decode cX7_byLeanings 38 = .ok (.goto 4, 3) := by decide +kernel
theorem dX7_byLeanings_41 : decode cX7_byLeanings 41 = .ok (.iconst 0, 1) := by decide +kernel
theorem dX7_byLeanings_42 : decode cX7_byLeanings 42 = .ok (.istore 5, 2) := by decide +kernel
theorem dX7_byLeanings_44 : decode cX7_byLeanings 44 = .ok (.iload_n 2, 1) := by decide +kernel
theorem dX7_byLeanings_45 : decode cX7_byLeanings 45 = .ok (.aload_n 0, 1) := by decide +kernel
theorem dX7_byLeanings_46 : decode cX7_byLeanings 46 = .ok (.iload 4, 2) := by decide +kernel
theorem dX7_byLeanings_48 : decode cX7_byLeanings 48 = .ok (.iconst 1, 1) := by decide +kernel
theorem dX7_byLeanings_49 : decode cX7_byLeanings 49 = .ok (.invokevirtual 61, 3) := by decide +kernel
theorem dX7_byLeanings_52 : decode cX7_byLeanings 52 = .ok (.aload_n 0, 1) := by decide +kernel
theorem dX7_byLeanings_53 : decode cX7_byLeanings 53 = .ok (.getfield 25, 3) := by decide +kernel
theorem dX7_byLeanings_56 : decode cX7_byLeanings 56 = .ok (.iload 4, 2) := by decide +kernel
theorem dX7_byLeanings_58 : decode cX7_byLeanings 58 = .ok (.iaload, 1) := by decide +kernel
theorem dX7_byLeanings_59 : decode cX7_byLeanings 59 = .ok (.if_icmp .eq 8, 3) := by decide +kernel
theorem dX7_byLeanings_62 : decode cX7_byLeanings 62 = .ok (.iload 5, 2) := by decide +kernel
theorem dX7_byLeanings_64 : decode cX7_byLeanings 64 = .ok (.goto 4, 3) := by decide +kernel
theorem dX7_byLeanings_67 : decode cX7_byLeanings 67 = .ok (.iconst 0, 1) := by decide +kernel
theorem dX7_byLeanings_68 : decode cX7_byLeanings 68 = .ok (.iadd, 1) := by decide +kernel
theorem dX7_byLeanings_69 : decode cX7_byLeanings 69 = .ok (.istore_n 2, 1) := by decide +kernel
theorem dX7_byLeanings_70 : decode cX7_byLeanings 70 = .ok (.iload_n 3, 1) := by decide +kernel
theorem dX7_byLeanings_71 : decode cX7_byLeanings 71 = .ok (.aload_n 0, 1) := by decide +kernel
theorem dX7_byLeanings_72 : decode cX7_byLeanings 72 = .ok (.iload 4, 2) := by decide +kernel
theorem dX7_byLeanings_74 : decode cX7_byLeanings 74 = .ok (.iconst 1, 1) := by decide +kernel
theorem dX7_byLeanings_75 : decode cX7_byLeanings 75 = .ok (.invokevirtual 61, 3) := by decide +kernel
theorem dX7_byLeanings_78 : decode cX7_byLeanings 78 = .ok (.aload_n 0, 1) := by decide +kernel
theorem dX7_byLeanings_79 : decode cX7_byLeanings 79 = .ok (.getfield 25, 3) := by decide +kernel
theorem dX7_byLeanings_82 : decode cX7_byLeanings 82 = .ok (.iload 4, 2) := by decide +kernel
theorem dX7_byLeanings_84 : decode cX7_byLeanings 84 = .ok (.iaload, 1) := by decide +kernel
theorem dX7_byLeanings_85 : decode cX7_byLeanings 85 = .ok (.if_icmp .ne 8, 3) := by decide +kernel
theorem dX7_byLeanings_88 : decode cX7_byLeanings 88 = .ok (.iload 5, 2) := by decide +kernel
theorem dX7_byLeanings_90 : decode cX7_byLeanings 90 = .ok (.goto 4, 3) := by decide +kernel
theorem dX7_byLeanings_93 : decode cX7_byLeanings 93 = .ok (.iconst 0, 1) := by decide +kernel
theorem dX7_byLeanings_94 : decode cX7_byLeanings 94 = .ok (.iadd, 1) := by decide +kernel
theorem dX7_byLeanings_95 : decode cX7_byLeanings 95 = .ok (.istore_n 3, 1) := by decide +kernel
theorem dX7_byLeanings_96 : decode cX7_byLeanings 96 = .ok (.iinc 4 1, 3) := by decide +kernel
theorem dX7_byLeanings_99 : decode cX7_byLeanings 99 = .ok (.goto (-92), 3) := by decide +kernel
theorem dX7_byLeanings_102 : decode cX7_byLeanings 102 = .ok (.iload_n 2, 1) := by decide +kernel
theorem dX7_byLeanings_103 : decode cX7_byLeanings 103 = .ok (.iload_n 3, 1) := by decide +kernel
theorem dX7_byLeanings_104 : decode cX7_byLeanings 104 = .ok (.if_icmp .le 7, 3) := by decide +kernel
theorem dX7_byLeanings_107 : decode cX7_byLeanings 107 = .ok (.iconst 1, 1) := by decide +kernel
theorem dX7_byLeanings_108 : decode cX7_byLeanings 108 = .ok (.goto 18, 3) := by decide +kernel
theorem dX7_byLeanings_111 : decode cX7_byLeanings 111 = .ok (.iload_n 2, 1) := by decide +kernel
theorem dX7_byLeanings_112 : decode cX7_byLeanings 112 = .ok (.iload_n 3, 1) := by decide +kernel
theorem dX7_byLeanings_113 : decode cX7_byLeanings 113 = .ok (.if_icmp .ge 7, 3) := by decide +kernel
theorem dX7_byLeanings_116 : decode cX7_byLeanings 116 = .ok (.iconst 0, 1) := by decide +kernel
theorem dX7_byLeanings_117 : decode cX7_byLeanings 117 = .ok (.goto 9, 3) := by decide +kernel
theorem dX7_byLeanings_120 : decode cX7_byLeanings 120 = .ok (.aload_n 0, 1) := by decide +kernel
theorem dX7_byLeanings_121 : decode cX7_byLeanings 121 = .ok (.iload_n 1, 1) := by decide +kernel
theorem dX7_byLeanings_122 : decode cX7_byLeanings 122 = .ok (.iconst 1, 1) := by decide +kernel
theorem dX7_byLeanings_123 : decode cX7_byLeanings 123 = .ok (.invokevirtual 61, 3) := by decide +kernel
theorem dX7_byLeanings_126 : decode cX7_byLeanings 126 = .ok (.ireturn, 1) := by decide +kernel
theorem dX7_votes_0 : decode cX7_votes 0 = .ok (.iconst 0, 1) := by decide +kernel
theorem dX7_votes_1 : decode cX7_votes 1 = .ok (.istore_n 1, 1) := by decide +kernel
theorem dX7_votes_2 : decode cX7_votes 2 = .ok (.iconst 0, 1) := by decide +kernel
theorem dX7_votes_3 : decode cX7_votes 3 = .ok (.istore_n 2, 1) := by decide +kernel
theorem dX7_votes_4 : decode cX7_votes 4 = .ok (.iload_n 2, 1) := by decide +kernel
theorem dX7_votes_5 : decode cX7_votes 5 = .ok (.aload_n 0, 1) := by decide +kernel
theorem dX7_votes_6 : decode cX7_votes 6 = .ok (.getfield 7, 3) := by decide +kernel
theorem dX7_votes_9 : decode cX7_votes 9 = .ok (.sipush 148, 3) := by decide +kernel
theorem dX7_votes_12 : decode cX7_votes 12 = .ok (.iaload, 1) := by decide +kernel
theorem dX7_votes_13 : decode cX7_votes 13 = .ok (.if_icmp .ge 96, 3) := by decide +kernel
theorem dX7_votes_16 : decode cX7_votes 16 = .ok (.aload_n 0, 1) := by decide +kernel
theorem dX7_votes_17 : decode cX7_votes 17 = .ok (.getfield 22, 3) := by decide +kernel
theorem dX7_votes_20 : decode cX7_votes 20 = .ok (.iload_n 2, 1) := by decide +kernel
theorem dX7_votes_21 : decode cX7_votes 21 = .ok (.iaload, 1) := by decide +kernel
theorem dX7_votes_22 : decode cX7_votes 22 = .ok (.iload_n 2, 1) := by decide +kernel
theorem dX7_votes_23 : decode cX7_votes 23 = .ok (.if_icmp .ne 33, 3) := by decide +kernel
theorem dX7_votes_26 : decode cX7_votes 26 = .ok (.aload_n 0, 1) := by decide +kernel
theorem dX7_votes_27 : decode cX7_votes 27 = .ok (.iload_n 2, 1) := by decide +kernel
theorem dX7_votes_28 : decode cX7_votes 28 = .ok (.ldc 60, 2) := by decide +kernel
theorem dX7_votes_30 : decode cX7_votes 30 = .ok (.invokevirtual 64, 3) := by decide +kernel
theorem dX7_votes_33 : decode cX7_votes 33 = .ok (.istore_n 3, 1) := by decide +kernel
theorem dX7_votes_34 : decode cX7_votes 34 = .ok (.aload_n 0, 1) := by decide +kernel
theorem dX7_votes_35 : decode cX7_votes 35 = .ok (.getfield 28, 3) := by decide +kernel
theorem dX7_votes_38 : decode cX7_votes 38 = .ok (.iload_n 2, 1) := by decide +kernel
theorem dX7_votes_39 : decode cX7_votes 39 = .ok (.iload_n 3, 1) := by decide +kernel
theorem dX7_votes_40 : decode cX7_votes 40 = .ok (.ifCond .ge 11, 3) := by decide +kernel
theorem dX7_votes_43 : decode cX7_votes 43 = .ok (.aload_n 0, 1) := by decide +kernel
theorem dX7_votes_44 : decode cX7_votes 44 = .ok (.iload_n 2, 1) := by decide +kernel
theorem dX7_votes_45 : decode cX7_votes 45 = .ok (.invokevirtual 67, 3) := by decide +kernel
theorem dX7_votes_48 : decode cX7_votes 48 = .ok (.goto 4, 3) := by decide +kernel
theorem dX7_votes_51 : decode cX7_votes 51 = .ok (.iload_n 3, 1) := by decide +kernel
theorem dX7_votes_52 : decode cX7_votes 52 = .ok (.iastore, 1) := by decide +kernel
theorem dX7_votes_53 : decode cX7_votes 53 = .ok (.goto 27, 3) := by decide +kernel
theorem dX7_votes_56 : decode cX7_votes 56 = .ok (.aload_n 0, 1) := by decide +kernel
theorem dX7_votes_57 : decode cX7_votes 57 = .ok (.getfield 28, 3) := by decide +kernel
theorem dX7_votes_60 : decode cX7_votes 60 = .ok (.iload_n 2, 1) := by decide +kernel
theorem dX7_votes_61 : decode cX7_votes 61 = .ok (.aload_n 0, 1) := by decide +kernel
theorem dX7_votes_62 : decode cX7_votes 62 = .ok (.getfield 28, 3) := by decide +kernel
theorem dX7_votes_65 : decode cX7_votes 65 = .ok (.aload_n 0, 1) := by decide +kernel
theorem dX7_votes_66 : decode cX7_votes 66 = .ok (.getfield 22, 3) := by decide +kernel
theorem dX7_votes_69 : decode cX7_votes 69 = .ok (.iload_n 2, 1) := by decide +kernel
theorem dX7_votes_70 : decode cX7_votes 70 = .ok (.iaload, 1) := by decide +kernel
theorem dX7_votes_71 : decode cX7_votes 71 = .ok (.iaload, 1) := by decide +kernel
theorem dX7_votes_72 : decode cX7_votes 72 = .ok (.aload_n 0, 1) := by decide +kernel
theorem dX7_votes_73 : decode cX7_votes 73 = .ok (.getfield 25, 3) := by decide +kernel
theorem dX7_votes_76 : decode cX7_votes 76 = .ok (.iload_n 2, 1) := by decide +kernel
theorem dX7_votes_77 : decode cX7_votes 77 = .ok (.iaload, 1) := by decide +kernel
theorem dX7_votes_78 : decode cX7_votes 78 = .ok (.ixor, 1) := by decide +kernel
theorem dX7_votes_79 : decode cX7_votes 79 = .ok (.iastore, 1) := by decide +kernel
theorem dX7_votes_80 : decode cX7_votes 80 = .ok (.iload_n 1, 1) := by decide +kernel
theorem dX7_votes_81 : decode cX7_votes 81 = .ok (.aload_n 0, 1) := by decide +kernel
theorem dX7_votes_82 : decode cX7_votes 82 = .ok (.getfield 28, 3) := by decide +kernel
theorem dX7_votes_85 : decode cX7_votes 85 = .ok (.iload_n 2, 1) := by decide +kernel
theorem dX7_votes_86 : decode cX7_votes 86 = .ok (.iaload, 1) := by decide +kernel
theorem dX7_votes_87 : decode cX7_votes 87 = .ok (.iconst 1, 1) := by decide +kernel
theorem dX7_votes_88 : decode cX7_votes 88 = .ok (.if_icmp .ne 12, 3) := by decide +kernel
theorem dX7_votes_91 : decode cX7_votes 91 = .ok (.aload_n 0, 1) := by decide +kernel
theorem dX7_votes_92 : decode cX7_votes 92 = .ok (.iload_n 2, 1) := by decide +kernel
theorem dX7_votes_93 : decode cX7_votes 93 = .ok (.iconst 0, 1) := by decide +kernel
theorem dX7_votes_94 : decode cX7_votes 94 = .ok (.invokevirtual 61, 3) := by decide +kernel
theorem dX7_votes_97 : decode cX7_votes 97 = .ok (.goto 4, 3) := by decide +kernel
theorem dX7_votes_100 : decode cX7_votes 100 = .ok (.iconst 0, 1) := by decide +kernel
theorem dX7_votes_101 : decode cX7_votes 101 = .ok (.iadd, 1) := by decide +kernel
theorem dX7_votes_102 : decode cX7_votes 102 = .ok (.istore_n 1, 1) := by decide +kernel
theorem dX7_votes_103 : decode cX7_votes 103 = .ok (.iinc 2 1, 3) := by decide +kernel
theorem dX7_votes_106 : decode cX7_votes 106 = .ok (.goto (-102), 3) := by decide +kernel
theorem dX7_votes_109 : decode cX7_votes 109 = .ok (.iload_n 1, 1) := by decide +kernel
theorem dX7_votes_110 : decode cX7_votes 110 = .ok (.ireturn, 1) := by decide +kernel
theorem dX7_yesNow_0 : decode cX7_yesNow 0 = .ok (.aload_n 0, 1) := by decide +kernel
theorem dX7_yesNow_1 : decode cX7_yesNow 1 = .ok (.ldc 60, 2) := by decide +kernel
theorem dX7_yesNow_3 : decode cX7_yesNow 3 = .ok (.invokevirtual 71, 3) := by decide +kernel
theorem dX7_yesNow_6 : decode cX7_yesNow 6 = .ok (.aload_n 0, 1) := by decide +kernel
theorem dX7_yesNow_7 : decode cX7_yesNow 7 = .ok (.invokevirtual 75, 3) := by decide +kernel
theorem dX7_yesNow_10 : decode cX7_yesNow 10 = .ok (.ireturn, 1) := by decide +kernel
theorem dX7_seats_0 : decode cX7_seats 0 = .ok (.iconst 0, 1) := by decide +kernel
theorem dX7_seats_1 : decode cX7_seats 1 = .ok (.istore_n 1, 1) := by decide +kernel
theorem dX7_seats_2 : decode cX7_seats 2 = .ok (.iconst 0, 1) := by decide +kernel
theorem dX7_seats_3 : decode cX7_seats 3 = .ok (.istore_n 2, 1) := by decide +kernel
theorem dX7_seats_4 : decode cX7_seats 4 = .ok (.iload_n 2, 1) := by decide +kernel
theorem dX7_seats_5 : decode cX7_seats 5 = .ok (.aload_n 0, 1) := by decide +kernel
theorem dX7_seats_6 : decode cX7_seats 6 = .ok (.getfield 7, 3) := by decide +kernel
theorem dX7_seats_9 : decode cX7_seats 9 = .ok (.sipush 148, 3) := by decide +kernel
theorem dX7_seats_12 : decode cX7_seats 12 = .ok (.iaload, 1) := by decide +kernel
theorem dX7_seats_13 : decode cX7_seats 13 = .ok (.if_icmp .ge 18, 3) := by decide +kernel
theorem dX7_seats_16 : decode cX7_seats 16 = .ok (.iload_n 1, 1) := by decide +kernel
theorem dX7_seats_17 : decode cX7_seats 17 = .ok (.aload_n 0, 1) := by decide +kernel
theorem dX7_seats_18 : decode cX7_seats 18 = .ok (.iload_n 2, 1) := by decide +kernel
theorem dX7_seats_19 : decode cX7_seats 19 = .ok (.iconst 0, 1) := by decide +kernel
theorem dX7_seats_20 : decode cX7_seats 20 = .ok (.invokevirtual 61, 3) := by decide +kernel
theorem dX7_seats_23 : decode cX7_seats 23 = .ok (.iadd, 1) := by decide +kernel
theorem dX7_seats_24 : decode cX7_seats 24 = .ok (.istore_n 1, 1) := by decide +kernel
theorem dX7_seats_25 : decode cX7_seats 25 = .ok (.iinc 2 1, 3) := by decide +kernel
theorem dX7_seats_28 : decode cX7_seats 28 = .ok (.goto (-24), 3) := by decide +kernel
theorem dX7_seats_31 : decode cX7_seats 31 = .ok (.iload_n 1, 1) := by decide +kernel
theorem dX7_seats_32 : decode cX7_seats 32 = .ok (.ireturn, 1) := by decide +kernel
theorem dX7_groups_0 : decode cX7_groups 0 = .ok (.iconst 0, 1) := by decide +kernel
theorem dX7_groups_1 : decode cX7_groups 1 = .ok (.istore_n 1, 1) := by decide +kernel
theorem dX7_groups_2 : decode cX7_groups 2 = .ok (.iconst 0, 1) := by decide +kernel
theorem dX7_groups_3 : decode cX7_groups 3 = .ok (.istore_n 2, 1) := by decide +kernel
theorem dX7_groups_4 : decode cX7_groups 4 = .ok (.iload_n 2, 1) := by decide +kernel
theorem dX7_groups_5 : decode cX7_groups 5 = .ok (.aload_n 0, 1) := by decide +kernel
theorem dX7_groups_6 : decode cX7_groups 6 = .ok (.getfield 7, 3) := by decide +kernel
theorem dX7_groups_9 : decode cX7_groups 9 = .ok (.sipush 148, 3) := by decide +kernel
theorem dX7_groups_12 : decode cX7_groups 12 = .ok (.iaload, 1) := by decide +kernel
theorem dX7_groups_13 : decode cX7_groups 13 = .ok (.if_icmp .ge 27, 3) := by decide +kernel
theorem dX7_groups_16 : decode cX7_groups 16 = .ok (.iload_n 1, 1) := by decide +kernel
theorem dX7_groups_17 : decode cX7_groups 17 = .ok (.aload_n 0, 1) := by decide +kernel
theorem dX7_groups_18 : decode cX7_groups 18 = .ok (.getfield 22, 3) := by decide +kernel
theorem dX7_groups_21 : decode cX7_groups 21 = .ok (.iload_n 2, 1) := by decide +kernel
theorem dX7_groups_22 : decode cX7_groups 22 = .ok (.iaload, 1) := by decide +kernel
theorem dX7_groups_23 : decode cX7_groups 23 = .ok (.iload_n 2, 1) := by decide +kernel
theorem dX7_groups_24 : decode cX7_groups 24 = .ok (.if_icmp .ne 7, 3) := by decide +kernel
theorem dX7_groups_27 : decode cX7_groups 27 = .ok (.iconst 1, 1) := by decide +kernel
theorem dX7_groups_28 : decode cX7_groups 28 = .ok (.goto 4, 3) := by decide +kernel
theorem dX7_groups_31 : decode cX7_groups 31 = .ok (.iconst 0, 1) := by decide +kernel
theorem dX7_groups_32 : decode cX7_groups 32 = .ok (.iadd, 1) := by decide +kernel
theorem dX7_groups_33 : decode cX7_groups 33 = .ok (.istore_n 1, 1) := by decide +kernel
theorem dX7_groups_34 : decode cX7_groups 34 = .ok (.iinc 2 1, 3) := by decide +kernel
theorem dX7_groups_37 : decode cX7_groups 37 = .ok (.goto (-33), 3) := by decide +kernel
theorem dX7_groups_40 : decode cX7_groups 40 = .ok (.iload_n 1, 1) := by decide +kernel
theorem dX7_groups_41 : decode cX7_groups 41 = .ok (.ireturn, 1) := by decide +kernel
theorem dX7_isPassed_0 : decode cX7_isPassed 0 = .ok (.aload_n 0, 1) := by decide +kernel
theorem dX7_isPassed_1 : decode cX7_isPassed 1 = .ok (.invokevirtual 79, 3) := by decide +kernel
theorem dX7_isPassed_4 : decode cX7_isPassed 4 = .ok (.istore_n 1, 1) := by decide +kernel
theorem dX7_isPassed_5 : decode cX7_isPassed 5 = .ok (.aload_n 0, 1) := by decide +kernel
theorem dX7_isPassed_6 : decode cX7_isPassed 6 = .ok (.invokevirtual 82, 3) := by decide +kernel
theorem dX7_isPassed_9 : decode cX7_isPassed 9 = .ok (.iload_n 1, 1) := by decide +kernel
theorem dX7_isPassed_10 : decode cX7_isPassed 10 = .ok (.isub, 1) := by decide +kernel
theorem dX7_isPassed_11 : decode cX7_isPassed 11 = .ok (.istore_n 2, 1) := by decide +kernel
theorem dX7_isPassed_12 : decode cX7_isPassed 12 = .ok (.iload_n 1, 1) := by decide +kernel
theorem dX7_isPassed_13 : decode cX7_isPassed 13 = .ok (.iload_n 2, 1) := by decide +kernel
theorem dX7_isPassed_14 : decode cX7_isPassed 14 = .ok (.if_icmp .gt 25, 3) := by decide +kernel
theorem dX7_isPassed_17 : decode cX7_isPassed 17 = .ok (.iload_n 1, 1) := by decide +kernel
theorem dX7_isPassed_18 : decode cX7_isPassed 18 = .ok (.iload_n 2, 1) := by decide +kernel
theorem dX7_isPassed_19 : decode cX7_isPassed 19 = .ok (.if_icmp .ne 24, 3) := by decide +kernel
theorem dX7_isPassed_22 : decode cX7_isPassed 22 = .ok (.aload_n 0, 1) := by decide +kernel
theorem dX7_isPassed_23 : decode cX7_isPassed 23 = .ok (.getfield 28, 3) := by decide +kernel
theorem dX7_isPassed_26 : decode cX7_isPassed 26 = .ok (.aload_n 0, 1) := by decide +kernel
theorem dX7_isPassed_27 : decode cX7_isPassed 27 = .ok (.getfield 7, 3) := by decide +kernel
theorem dX7_isPassed_30 : decode cX7_isPassed 30 = .ok (.sipush 150, 3) := by decide +kernel
theorem dX7_isPassed_33 : decode cX7_isPassed 33 = .ok (.iaload, 1) := by decide +kernel
theorem dX7_isPassed_34 : decode cX7_isPassed 34 = .ok (.iaload, 1) := by decide +kernel
theorem dX7_isPassed_35 : decode cX7_isPassed 35 = .ok (.iconst 1, 1) := by decide +kernel
theorem dX7_isPassed_36 : decode cX7_isPassed 36 = .ok (.if_icmp .ne 7, 3) := by decide +kernel
theorem dX7_isPassed_39 : decode cX7_isPassed 39 = .ok (.iconst 1, 1) := by decide +kernel
theorem dX7_isPassed_40 : decode cX7_isPassed 40 = .ok (.goto 4, 3) := by decide +kernel
theorem dX7_isPassed_43 : decode cX7_isPassed 43 = .ok (.iconst 0, 1) := by decide +kernel
theorem dX7_isPassed_44 : decode cX7_isPassed 44 = .ok (.ireturn, 1) := by decide +kernel
theorem dX7_stringOfBoth_0 : decode cX7_stringOfBoth 0 = .ok (.iload_n 1, 1) := by decide +kernel
theorem dX7_stringOfBoth_1 : decode cX7_stringOfBoth 1 = .ok (.iload_n 2, 1) := by decide +kernel
theorem dX7_stringOfBoth_2 : decode cX7_stringOfBoth 2 = .ok (.if_icmp .ge 7, 3) := by decide +kernel
theorem dX7_stringOfBoth_5 : decode cX7_stringOfBoth 5 = .ok (.iload_n 1, 1) := by decide +kernel
theorem dX7_stringOfBoth_6 : decode cX7_stringOfBoth 6 = .ok (.goto 4, 3) := by decide +kernel
theorem dX7_stringOfBoth_9 : decode cX7_stringOfBoth 9 = .ok (.iload_n 2, 1) := by decide +kernel
theorem dX7_stringOfBoth_10 : decode cX7_stringOfBoth 10 = .ok (.istore_n 3, 1) := by decide +kernel
theorem dX7_stringOfBoth_11 : decode cX7_stringOfBoth 11 = .ok (.iconst 0, 1) := by decide +kernel
theorem dX7_stringOfBoth_12 : decode cX7_stringOfBoth 12 = .ok (.istore 4, 2) := by decide +kernel
theorem dX7_stringOfBoth_14 : decode cX7_stringOfBoth 14 = .ok (.iload 4, 2) := by decide +kernel
theorem dX7_stringOfBoth_16 : decode cX7_stringOfBoth 16 = .ok (.aload_n 0, 1) := by decide +kernel
theorem dX7_stringOfBoth_17 : decode cX7_stringOfBoth 17 = .ok (.getfield 7, 3) := by decide +kernel
theorem dX7_stringOfBoth_20 : decode cX7_stringOfBoth 20 = .ok (.sipush 149, 3) := by decide +kernel
theorem dX7_stringOfBoth_23 : decode cX7_stringOfBoth 23 = .ok (.iaload, 1) := by decide +kernel
theorem dX7_stringOfBoth_24 : decode cX7_stringOfBoth 24 = .ok (.if_icmp .ge 38, 3) := by decide +kernel
theorem dX7_stringOfBoth_27 : decode cX7_stringOfBoth 27 = .ok (.aload_n 0, 1) := by decide +kernel
theorem dX7_stringOfBoth_28 : decode cX7_stringOfBoth 28 = .ok (.iload 4, 2) := by decide +kernel
theorem dX7_stringOfBoth_30 : decode cX7_stringOfBoth 30 = .ok (.iconst 0, 1) := by decide +kernel
theorem dX7_stringOfBoth_31 : decode cX7_stringOfBoth 31 = .ok (.invokevirtual 53, 3) := by decide +kernel
theorem dX7_stringOfBoth_34 : decode cX7_stringOfBoth 34 = .ok (.iload_n 3, 1) := by decide +kernel
theorem dX7_stringOfBoth_35 : decode cX7_stringOfBoth 35 = .ok (.if_icmp .ne 21, 3) := by decide +kernel
theorem dX7_stringOfBoth_38 : decode cX7_stringOfBoth 38 = .ok (.aload_n 0, 1) := by decide +kernel
theorem dX7_stringOfBoth_39 : decode cX7_stringOfBoth 39 = .ok (.iload 4, 2) := by decide +kernel
theorem dX7_stringOfBoth_41 : decode cX7_stringOfBoth 41 = .ok (.iconst 1, 1) := by decide +kernel
theorem dX7_stringOfBoth_42 : decode cX7_stringOfBoth 42 = .ok (.invokevirtual 53, 3) := by decide +kernel
theorem dX7_stringOfBoth_45 : decode cX7_stringOfBoth 45 = .ok (.iload_n 1, 1) := by decide +kernel
theorem dX7_stringOfBoth_46 : decode cX7_stringOfBoth 46 = .ok (.iload_n 2, 1) := by decide +kernel
theorem dX7_stringOfBoth_47 : decode cX7_stringOfBoth 47 = .ok (.iadd, 1) := by decide +kernel
theorem dX7_stringOfBoth_48 : decode cX7_stringOfBoth 48 = .ok (.iload_n 3, 1) := by decide +kernel
theorem dX7_stringOfBoth_49 : decode cX7_stringOfBoth 49 = .ok (.isub, 1) := by decide +kernel
theorem dX7_stringOfBoth_50 : decode cX7_stringOfBoth 50 = .ok (.if_icmp .ne 6, 3) := by decide +kernel
theorem dX7_stringOfBoth_53 : decode cX7_stringOfBoth 53 = .ok (.iload 4, 2) := by decide +kernel
theorem dX7_stringOfBoth_55 : decode cX7_stringOfBoth 55 = .ok (.ireturn, 1) := by decide +kernel
theorem dX7_stringOfBoth_56 : decode cX7_stringOfBoth 56 = .ok (.iinc 4 1, 3) := by decide +kernel
theorem dX7_stringOfBoth_59 : decode cX7_stringOfBoth 59 = .ok (.goto (-45), 3) := by decide +kernel
theorem dX7_stringOfBoth_62 : decode cX7_stringOfBoth 62 = .ok (.ldc 60, 2) := by decide +kernel
theorem dX7_stringOfBoth_64 : decode cX7_stringOfBoth 64 = .ok (.ireturn, 1) := by decide +kernel
theorem dX7_refused_0 : decode cX7_refused 0 = .ok (.aload_n 0, 1) := by decide +kernel
theorem dX7_refused_1 : decode cX7_refused 1 = .ok (.iload_n 1, 1) := by decide +kernel
theorem dX7_refused_2 : decode cX7_refused 2 = .ok (.iload_n 2, 1) := by decide +kernel
theorem dX7_refused_3 : decode cX7_refused 3 = .ok (.invokevirtual 85, 3) := by decide +kernel
theorem dX7_refused_6 : decode cX7_refused 6 = .ok (.ifCond .lt 5, 3) := by decide +kernel
theorem dX7_refused_9 : decode cX7_refused 9 = .ok (.iconst 1, 1) := by decide +kernel
theorem dX7_refused_10 : decode cX7_refused 10 = .ok (.ireturn, 1) := by decide +kernel
theorem dX7_refused_11 : decode cX7_refused 11 = .ok (.aload_n 0, 1) := by decide +kernel
theorem dX7_refused_12 : decode cX7_refused 12 = .ok (.ldc 60, 2) := by decide +kernel
theorem dX7_refused_14 : decode cX7_refused 14 = .ok (.invokevirtual 71, 3) := by decide +kernel
theorem dX7_refused_17 : decode cX7_refused 17 = .ok (.aload_n 0, 1) := by decide +kernel
theorem dX7_refused_18 : decode cX7_refused 18 = .ok (.getfield 22, 3) := by decide +kernel
theorem dX7_refused_21 : decode cX7_refused 21 = .ok (.iload_n 1, 1) := by decide +kernel
theorem dX7_refused_22 : decode cX7_refused 22 = .ok (.iaload, 1) := by decide +kernel
theorem dX7_refused_23 : decode cX7_refused 23 = .ok (.aload_n 0, 1) := by decide +kernel
theorem dX7_refused_24 : decode cX7_refused 24 = .ok (.getfield 22, 3) := by decide +kernel
theorem dX7_refused_27 : decode cX7_refused 27 = .ok (.iload_n 2, 1) := by decide +kernel
theorem dX7_refused_28 : decode cX7_refused 28 = .ok (.iaload, 1) := by decide +kernel
theorem dX7_refused_29 : decode cX7_refused 29 = .ok (.if_icmp .ne 26, 3) := by decide +kernel
theorem dX7_refused_32 : decode cX7_refused 32 = .ok (.aload_n 0, 1) := by decide +kernel
theorem dX7_refused_33 : decode cX7_refused 33 = .ok (.getfield 25, 3) := by decide +kernel
theorem dX7_refused_36 : decode cX7_refused 36 = .ok (.iload_n 1, 1) := by decide +kernel
theorem dX7_refused_37 : decode cX7_refused 37 = .ok (.iaload, 1) := by decide +kernel
theorem dX7_refused_38 : decode cX7_refused 38 = .ok (.aload_n 0, 1) := by decide +kernel
theorem dX7_refused_39 : decode cX7_refused 39 = .ok (.getfield 25, 3) := by decide +kernel
theorem dX7_refused_42 : decode cX7_refused 42 = .ok (.iload_n 2, 1) := by decide +kernel
theorem dX7_refused_43 : decode cX7_refused 43 = .ok (.iaload, 1) := by decide +kernel
theorem dX7_refused_44 : decode cX7_refused 44 = .ok (.ixor, 1) := by decide +kernel
theorem dX7_refused_45 : decode cX7_refused 45 = .ok (.iload_n 3, 1) := by decide +kernel
theorem dX7_refused_46 : decode cX7_refused 46 = .ok (.if_icmp .ne 7, 3) := by decide +kernel
theorem dX7_refused_49 : decode cX7_refused 49 = .ok (.iconst 0, 1) := by decide +kernel
theorem dX7_refused_50 : decode cX7_refused 50 = .ok (.goto 4, 3) := by decide +kernel
theorem dX7_refused_53 : decode cX7_refused 53 = .ok (.iconst 2, 1) := by decide +kernel
theorem dX7_refused_54 : decode cX7_refused 54 = .ok (.ireturn, 1) := by decide +kernel
theorem dX7_refused_55 : decode cX7_refused 55 = .ok (.aload_n 0, 1) := by decide +kernel
theorem dX7_refused_56 : decode cX7_refused 56 = .ok (.aload_n 0, 1) := by decide +kernel
theorem dX7_refused_57 : decode cX7_refused 57 = .ok (.getfield 22, 3) := by decide +kernel
theorem dX7_refused_60 : decode cX7_refused 60 = .ok (.iload_n 1, 1) := by decide +kernel
theorem dX7_refused_61 : decode cX7_refused 61 = .ok (.iaload, 1) := by decide +kernel
theorem dX7_refused_62 : decode cX7_refused 62 = .ok (.ldc 60, 2) := by decide +kernel
theorem dX7_refused_64 : decode cX7_refused 64 = .ok (.invokevirtual 64, 3) := by decide +kernel
theorem dX7_refused_67 : decode cX7_refused 67 = .ok (.istore 4, 2) := by decide +kernel
theorem dX7_refused_69 : decode cX7_refused 69 = .ok (.aload_n 0, 1) := by decide +kernel
theorem dX7_refused_70 : decode cX7_refused 70 = .ok (.aload_n 0, 1) := by decide +kernel
theorem dX7_refused_71 : decode cX7_refused 71 = .ok (.getfield 22, 3) := by decide +kernel
theorem dX7_refused_74 : decode cX7_refused 74 = .ok (.iload_n 2, 1) := by decide +kernel
theorem dX7_refused_75 : decode cX7_refused 75 = .ok (.iaload, 1) := by decide +kernel
theorem dX7_refused_76 : decode cX7_refused 76 = .ok (.ldc 60, 2) := by decide +kernel
theorem dX7_refused_78 : decode cX7_refused 78 = .ok (.invokevirtual 64, 3) := by decide +kernel
theorem dX7_refused_81 : decode cX7_refused 81 = .ok (.istore 5, 2) := by decide +kernel
theorem dX7_refused_83 : decode cX7_refused 83 = .ok (.iload 4, 2) := by decide +kernel
theorem dX7_refused_85 : decode cX7_refused 85 = .ok (.ifCond .lt 35, 3) := by decide +kernel
theorem dX7_refused_88 : decode cX7_refused 88 = .ok (.iload 5, 2) := by decide +kernel
theorem dX7_refused_90 : decode cX7_refused 90 = .ok (.ifCond .lt 30, 3) := by decide +kernel
theorem dX7_refused_93 : decode cX7_refused 93 = .ok (.iload 4, 2) := by decide +kernel
theorem dX7_refused_95 : decode cX7_refused 95 = .ok (.aload_n 0, 1) := by decide +kernel
theorem dX7_refused_96 : decode cX7_refused 96 = .ok (.getfield 25, 3) := by decide +kernel
theorem dX7_refused_99 : decode cX7_refused 99 = .ok (.iload_n 1, 1) := by decide +kernel
theorem dX7_refused_100 : decode cX7_refused 100 = .ok (.iaload, 1) := by decide +kernel
theorem dX7_refused_101 : decode cX7_refused 101 = .ok (.ixor, 1) := by decide +kernel
theorem dX7_refused_102 : decode cX7_refused 102 = .ok (.iload 5, 2) := by decide +kernel
theorem dX7_refused_104 : decode cX7_refused 104 = .ok (.ixor, 1) := by decide +kernel
theorem dX7_refused_105 : decode cX7_refused 105 = .ok (.aload_n 0, 1) := by decide +kernel
theorem dX7_refused_106 : decode cX7_refused 106 = .ok (.getfield 25, 3) := by decide +kernel
theorem dX7_refused_109 : decode cX7_refused 109 = .ok (.iload_n 2, 1) := by decide +kernel
theorem dX7_refused_110 : decode cX7_refused 110 = .ok (.iaload, 1) := by decide +kernel
theorem dX7_refused_111 : decode cX7_refused 111 = .ok (.ixor, 1) := by decide +kernel
theorem dX7_refused_112 : decode cX7_refused 112 = .ok (.iload_n 3, 1) := by decide +kernel
theorem dX7_refused_113 : decode cX7_refused 113 = .ok (.if_icmp .eq 7, 3) := by decide +kernel
theorem dX7_refused_116 : decode cX7_refused 116 = .ok (.iconst 3, 1) := by decide +kernel
theorem dX7_refused_117 : decode cX7_refused 117 = .ok (.goto 4, 3) := by decide +kernel
theorem dX7_refused_120 : decode cX7_refused 120 = .ok (.iconst 0, 1) := by decide +kernel
theorem dX7_refused_121 : decode cX7_refused 121 = .ok (.ireturn, 1) := by decide +kernel
theorem dX7_whyTie_0 : decode cX7_whyTie 0 = .ok (.aload_n 0, 1) := by decide +kernel
theorem dX7_whyTie_1 : decode cX7_whyTie 1 = .ok (.iload_n 1, 1) := by decide +kernel
theorem dX7_whyTie_2 : decode cX7_whyTie 2 = .ok (.iload_n 2, 1) := by decide +kernel
theorem dX7_whyTie_3 : decode cX7_whyTie 3 = .ok (.invokevirtual 88, 3) := by decide +kernel
theorem dX7_whyTie_6 : decode cX7_whyTie 6 = .ok (.ifCond .eq 21, 3) := by decide +kernel
theorem dX7_whyTie_9 : decode cX7_whyTie 9 = .ok (.aload_n 0, 1) := by decide +kernel
theorem dX7_whyTie_10 : decode cX7_whyTie 10 = .ok (.iload_n 1, 1) := by decide +kernel
theorem dX7_whyTie_11 : decode cX7_whyTie 11 = .ok (.iload_n 2, 1) := by decide +kernel
theorem dX7_whyTie_12 : decode cX7_whyTie 12 = .ok (.iload_n 3, 1) := by decide +kernel
theorem dX7_whyTie_13 : decode cX7_whyTie 13 = .ok (.ifCond .eq 7, 3) := by decide +kernel
theorem dX7_whyTie_16 : decode cX7_whyTie 16 = .ok (.iconst 1, 1) := by decide +kernel
theorem dX7_whyTie_17 : decode cX7_whyTie 17 = .ok (.goto 4, 3) := by decide +kernel
theorem dX7_whyTie_20 : decode cX7_whyTie 20 = .ok (.iconst 0, 1) := by decide +kernel
theorem dX7_whyTie_21 : decode cX7_whyTie 21 = .ok (.invokevirtual 92, 3) := by decide +kernel
theorem dX7_whyTie_24 : decode cX7_whyTie 24 = .ok (.goto 5, 3) := by decide +kernel
theorem dX7_whyTie_27 : decode cX7_whyTie 27 = .ok (.ldc 96, 2) := by decide +kernel
theorem dX7_whyTie_29 : decode cX7_whyTie 29 = .ok (.ireturn, 1) := by decide +kernel
theorem dX7_puppet_0 : decode cX7_puppet 0 = .ok (.iload_n 1, 1) := by decide +kernel
theorem dX7_puppet_1 : decode cX7_puppet 1 = .ok (.iconst 1, 1) := by decide +kernel
theorem dX7_puppet_2 : decode cX7_puppet 2 = .ok (.bipush 9, 2) := by decide +kernel
theorem dX7_puppet_4 : decode cX7_puppet 4 = .ok (.invokestatic 45, 3) := by decide +kernel
theorem dX7_puppet_7 : decode cX7_puppet 7 = .ok (.ifCond .eq 12, 3) := by decide +kernel
theorem dX7_puppet_10 : decode cX7_puppet 10 = .ok (.iload_n 2, 1) := by decide +kernel
theorem dX7_puppet_11 : decode cX7_puppet 11 = .ok (.iconst 0, 1) := by decide +kernel
theorem dX7_puppet_12 : decode cX7_puppet 12 = .ok (.iconst 1, 1) := by decide +kernel
theorem dX7_puppet_13 : decode cX7_puppet 13 = .ok (.invokestatic 45, 3) := by decide +kernel
theorem dX7_puppet_16 : decode cX7_puppet 16 = .ok (.ifCond .ne 6, 3) := by decide +kernel
theorem dX7_puppet_19 : decode cX7_puppet 19 = .ok (.ldc 96, 2) := by decide +kernel
theorem dX7_puppet_21 : decode cX7_puppet 21 = .ok (.ireturn, 1) := by decide +kernel
theorem dX7_puppet_22 : decode cX7_puppet 22 = .ok (.aload_n 0, 1) := by decide +kernel
theorem dX7_puppet_23 : decode cX7_puppet 23 = .ok (.getfield 7, 3) := by decide +kernel
theorem dX7_puppet_26 : decode cX7_puppet 26 = .ok (.sipush 148, 3) := by decide +kernel
theorem dX7_puppet_29 : decode cX7_puppet 29 = .ok (.iaload, 1) := by decide +kernel
theorem dX7_puppet_30 : decode cX7_puppet 30 = .ok (.bipush 12, 2) := by decide +kernel
theorem dX7_puppet_32 : decode cX7_puppet 32 = .ok (.if_icmp .ne 6, 3) := by decide +kernel
theorem dX7_puppet_35 : decode cX7_puppet 35 = .ok (.ldc 97, 2) := by decide +kernel
theorem dX7_puppet_37 : decode cX7_puppet 37 = .ok (.ireturn, 1) := by decide +kernel
theorem dX7_puppet_38 : decode cX7_puppet 38 = .ok (.aload_n 0, 1) := by decide +kernel
theorem dX7_puppet_39 : decode cX7_puppet 39 = .ok (.invokevirtual 98, 3) := by decide +kernel
theorem dX7_puppet_42 : decode cX7_puppet 42 = .ok (.aload_n 0, 1) := by decide +kernel
theorem dX7_puppet_43 : decode cX7_puppet 43 = .ok (.getfield 7, 3) := by decide +kernel
theorem dX7_puppet_46 : decode cX7_puppet 46 = .ok (.sipush 148, 3) := by decide +kernel
theorem dX7_puppet_49 : decode cX7_puppet 49 = .ok (.iaload, 1) := by decide +kernel
theorem dX7_puppet_50 : decode cX7_puppet 50 = .ok (.istore_n 3, 1) := by decide +kernel
theorem dX7_puppet_51 : decode cX7_puppet 51 = .ok (.aload_n 0, 1) := by decide +kernel
theorem dX7_puppet_52 : decode cX7_puppet 52 = .ok (.getfield 7, 3) := by decide +kernel
theorem dX7_puppet_55 : decode cX7_puppet 55 = .ok (.iconst 3, 1) := by decide +kernel
theorem dX7_puppet_56 : decode cX7_puppet 56 = .ok (.iload_n 3, 1) := by decide +kernel
theorem dX7_puppet_57 : decode cX7_puppet 57 = .ok (.imul, 1) := by decide +kernel
theorem dX7_puppet_58 : decode cX7_puppet 58 = .ok (.iconst 0, 1) := by decide +kernel
theorem dX7_puppet_59 : decode cX7_puppet 59 = .ok (.iadd, 1) := by decide +kernel
theorem dX7_puppet_60 : decode cX7_puppet 60 = .ok (.iload_n 1, 1) := by decide +kernel
theorem dX7_puppet_61 : decode cX7_puppet 61 = .ok (.iastore, 1) := by decide +kernel
theorem dX7_puppet_62 : decode cX7_puppet 62 = .ok (.aload_n 0, 1) := by decide +kernel
theorem dX7_puppet_63 : decode cX7_puppet 63 = .ok (.getfield 7, 3) := by decide +kernel
theorem dX7_puppet_66 : decode cX7_puppet 66 = .ok (.iconst 3, 1) := by decide +kernel
theorem dX7_puppet_67 : decode cX7_puppet 67 = .ok (.iload_n 3, 1) := by decide +kernel
theorem dX7_puppet_68 : decode cX7_puppet 68 = .ok (.imul, 1) := by decide +kernel
theorem dX7_puppet_69 : decode cX7_puppet 69 = .ok (.iconst 1, 1) := by decide +kernel
theorem dX7_puppet_70 : decode cX7_puppet 70 = .ok (.iadd, 1) := by decide +kernel
theorem dX7_puppet_71 : decode cX7_puppet 71 = .ok (.iload_n 2, 1) := by decide +kernel
theorem dX7_puppet_72 : decode cX7_puppet 72 = .ok (.iastore, 1) := by decide +kernel
theorem dX7_puppet_73 : decode cX7_puppet 73 = .ok (.aload_n 0, 1) := by decide +kernel
theorem dX7_puppet_74 : decode cX7_puppet 74 = .ok (.getfield 7, 3) := by decide +kernel
theorem dX7_puppet_77 : decode cX7_puppet 77 = .ok (.sipush 148, 3) := by decide +kernel
theorem dX7_puppet_80 : decode cX7_puppet 80 = .ok (.dup2, 1) := by decide +kernel
theorem dX7_puppet_81 : decode cX7_puppet 81 = .ok (.iaload, 1) := by decide +kernel
theorem dX7_puppet_82 : decode cX7_puppet 82 = .ok (.iconst 1, 1) := by decide +kernel
theorem dX7_puppet_83 : decode cX7_puppet 83 = .ok (.iadd, 1) := by decide +kernel
theorem dX7_puppet_84 : decode cX7_puppet 84 = .ok (.iastore, 1) := by decide +kernel
theorem dX7_puppet_85 : decode cX7_puppet 85 = .ok (.iload_n 3, 1) := by decide +kernel
theorem dX7_puppet_86 : decode cX7_puppet 86 = .ok (.ireturn, 1) := by decide +kernel
theorem dX7_tie_0 : decode cX7_tie 0 = .ok (.aload_n 0, 1) := by decide +kernel
theorem dX7_tie_1 : decode cX7_tie 1 = .ok (.iload_n 1, 1) := by decide +kernel
theorem dX7_tie_2 : decode cX7_tie 2 = .ok (.iload_n 2, 1) := by decide +kernel
theorem dX7_tie_3 : decode cX7_tie 3 = .ok (.invokevirtual 88, 3) := by decide +kernel
theorem dX7_tie_6 : decode cX7_tie 6 = .ok (.ifCond .eq 13, 3) := by decide +kernel
theorem dX7_tie_9 : decode cX7_tie 9 = .ok (.iload 4, 2) := by decide +kernel
theorem dX7_tie_11 : decode cX7_tie 11 = .ok (.iconst 0, 1) := by decide +kernel
theorem dX7_tie_12 : decode cX7_tie 12 = .ok (.iconst 5, 1) := by decide +kernel
theorem dX7_tie_13 : decode cX7_tie 13 = .ok (.invokestatic 45, 3) := by decide +kernel
theorem dX7_tie_16 : decode cX7_tie 16 = .ok (.ifCond .ne 6, 3) := by decide +kernel
theorem dX7_tie_19 : decode cX7_tie 19 = .ok (.ldc 96, 2) := by decide +kernel
theorem dX7_tie_21 : decode cX7_tie 21 = .ok (.ireturn, 1) := by decide +kernel
theorem dX7_tie_22 : decode cX7_tie 22 = .ok (.aload_n 0, 1) := by decide +kernel
theorem dX7_tie_23 : decode cX7_tie 23 = .ok (.iload_n 1, 1) := by decide +kernel
theorem dX7_tie_24 : decode cX7_tie 24 = .ok (.iload_n 2, 1) := by decide +kernel
theorem dX7_tie_25 : decode cX7_tie 25 = .ok (.iload_n 3, 1) := by decide +kernel
theorem dX7_tie_26 : decode cX7_tie 26 = .ok (.ifCond .eq 7, 3) := by decide +kernel
theorem dX7_tie_29 : decode cX7_tie 29 = .ok (.iconst 1, 1) := by decide +kernel
theorem dX7_tie_30 : decode cX7_tie 30 = .ok (.goto 4, 3) := by decide +kernel
theorem dX7_tie_33 : decode cX7_tie 33 = .ok (.iconst 0, 1) := by decide +kernel
theorem dX7_tie_34 : decode cX7_tie 34 = .ok (.invokevirtual 92, 3) := by decide +kernel
theorem dX7_tie_37 : decode cX7_tie 37 = .ok (.ifCond .le 6, 3) := by decide +kernel
theorem dX7_tie_40 : decode cX7_tie 40 = .ok (.ldc 101, 2) := by decide +kernel
theorem dX7_tie_42 : decode cX7_tie 42 = .ok (.ireturn, 1) := by decide +kernel
theorem dX7_tie_43 : decode cX7_tie 43 = .ok (.aload_n 0, 1) := by decide +kernel
theorem dX7_tie_44 : decode cX7_tie 44 = .ok (.getfield 7, 3) := by decide +kernel
theorem dX7_tie_47 : decode cX7_tie 47 = .ok (.sipush 149, 3) := by decide +kernel
theorem dX7_tie_50 : decode cX7_tie 50 = .ok (.iaload, 1) := by decide +kernel
theorem dX7_tie_51 : decode cX7_tie 51 = .ok (.bipush 20, 2) := by decide +kernel
theorem dX7_tie_53 : decode cX7_tie 53 = .ok (.if_icmp .ne 6, 3) := by decide +kernel
theorem dX7_tie_56 : decode cX7_tie 56 = .ok (.ldc 97, 2) := by decide +kernel
theorem dX7_tie_58 : decode cX7_tie 58 = .ok (.ireturn, 1) := by decide +kernel
theorem dX7_tie_59 : decode cX7_tie 59 = .ok (.aload_n 0, 1) := by decide +kernel
theorem dX7_tie_60 : decode cX7_tie 60 = .ok (.invokevirtual 98, 3) := by decide +kernel
theorem dX7_tie_63 : decode cX7_tie 63 = .ok (.bipush 36, 2) := by decide +kernel
theorem dX7_tie_65 : decode cX7_tie 65 = .ok (.iconst 4, 1) := by decide +kernel
theorem dX7_tie_66 : decode cX7_tie 66 = .ok (.aload_n 0, 1) := by decide +kernel
theorem dX7_tie_67 : decode cX7_tie 67 = .ok (.getfield 7, 3) := by decide +kernel
theorem dX7_tie_70 : decode cX7_tie 70 = .ok (.sipush 149, 3) := by decide +kernel
theorem dX7_tie_73 : decode cX7_tie 73 = .ok (.iaload, 1) := by decide +kernel
theorem dX7_tie_74 : decode cX7_tie 74 = .ok (.imul, 1) := by decide +kernel
theorem dX7_tie_75 : decode cX7_tie 75 = .ok (.iadd, 1) := by decide +kernel
theorem dX7_tie_76 : decode cX7_tie 76 = .ok (.istore 5, 2) := by decide +kernel
theorem dX7_tie_78 : decode cX7_tie 78 = .ok (.aload_n 0, 1) := by decide +kernel
theorem dX7_tie_79 : decode cX7_tie 79 = .ok (.getfield 7, 3) := by decide +kernel
theorem dX7_tie_82 : decode cX7_tie 82 = .ok (.iload 5, 2) := by decide +kernel
theorem dX7_tie_84 : decode cX7_tie 84 = .ok (.iconst 0, 1) := by decide +kernel
theorem dX7_tie_85 : decode cX7_tie 85 = .ok (.iadd, 1) := by decide +kernel
theorem dX7_tie_86 : decode cX7_tie 86 = .ok (.iload_n 1, 1) := by decide +kernel
theorem dX7_tie_87 : decode cX7_tie 87 = .ok (.iload_n 2, 1) := by decide +kernel
theorem dX7_tie_88 : decode cX7_tie 88 = .ok (.if_icmp .ge 7, 3) := by decide +kernel
theorem dX7_tie_91 : decode cX7_tie 91 = .ok (.iload_n 1, 1) := by decide +kernel
theorem dX7_tie_92 : decode cX7_tie 92 = .ok (.goto 4, 3) := by decide +kernel
theorem dX7_tie_95 : decode cX7_tie 95 = .ok (.iload_n 2, 1) := by decide +kernel
theorem dX7_tie_96 : decode cX7_tie 96 = .ok (.iastore, 1) := by decide +kernel
theorem dX7_tie_97 : decode cX7_tie 97 = .ok (.aload_n 0, 1) := by decide +kernel
theorem dX7_tie_98 : decode cX7_tie 98 = .ok (.getfield 7, 3) := by decide +kernel
theorem dX7_tie_101 : decode cX7_tie 101 = .ok (.iload 5, 2) := by decide +kernel
theorem dX7_tie_103 : decode cX7_tie 103 = .ok (.iconst 1, 1) := by decide +kernel
theorem dX7_tie_104 : decode cX7_tie 104 = .ok (.iadd, 1) := by decide +kernel
theorem dX7_tie_105 : decode cX7_tie 105 = .ok (.iload_n 1, 1) := by decide +kernel
theorem dX7_tie_106 : decode cX7_tie 106 = .ok (.iload_n 2, 1) := by decide +kernel
theorem dX7_tie_107 : decode cX7_tie 107 = .ok (.if_icmp .ge 7, 3) := by decide +kernel
theorem dX7_tie_110 : decode cX7_tie 110 = .ok (.iload_n 2, 1) := by decide +kernel
theorem dX7_tie_111 : decode cX7_tie 111 = .ok (.goto 4, 3) := by decide +kernel
theorem dX7_tie_114 : decode cX7_tie 114 = .ok (.iload_n 1, 1) := by decide +kernel
theorem dX7_tie_115 : decode cX7_tie 115 = .ok (.iastore, 1) := by decide +kernel
theorem dX7_tie_116 : decode cX7_tie 116 = .ok (.aload_n 0, 1) := by decide +kernel
theorem dX7_tie_117 : decode cX7_tie 117 = .ok (.getfield 7, 3) := by decide +kernel
theorem dX7_tie_120 : decode cX7_tie 120 = .ok (.iload 5, 2) := by decide +kernel
theorem dX7_tie_122 : decode cX7_tie 122 = .ok (.iconst 2, 1) := by decide +kernel
theorem dX7_tie_123 : decode cX7_tie 123 = .ok (.iadd, 1) := by decide +kernel
theorem dX7_tie_124 : decode cX7_tie 124 = .ok (.iload_n 3, 1) := by decide +kernel
theorem dX7_tie_125 : decode cX7_tie 125 = .ok (.ifCond .eq 7, 3) := by decide +kernel
theorem dX7_tie_128 : decode cX7_tie 128 = .ok (.iconst 1, 1) := by decide +kernel
theorem dX7_tie_129 : decode cX7_tie 129 = .ok (.goto 4, 3) := by decide +kernel
theorem dX7_tie_132 : decode cX7_tie 132 = .ok (.iconst 0, 1) := by decide +kernel
theorem dX7_tie_133 : decode cX7_tie 133 = .ok (.iastore, 1) := by decide +kernel
theorem dX7_tie_134 : decode cX7_tie 134 = .ok (.aload_n 0, 1) := by decide +kernel
theorem dX7_tie_135 : decode cX7_tie 135 = .ok (.getfield 7, 3) := by decide +kernel
theorem dX7_tie_138 : decode cX7_tie 138 = .ok (.iload 5, 2) := by decide +kernel
theorem dX7_tie_140 : decode cX7_tie 140 = .ok (.iconst 3, 1) := by decide +kernel
theorem dX7_tie_141 : decode cX7_tie 141 = .ok (.iadd, 1) := by decide +kernel
theorem dX7_tie_142 : decode cX7_tie 142 = .ok (.iload 4, 2) := by decide +kernel
theorem dX7_tie_144 : decode cX7_tie 144 = .ok (.iastore, 1) := by decide +kernel
theorem dX7_tie_145 : decode cX7_tie 145 = .ok (.aload_n 0, 1) := by decide +kernel
theorem dX7_tie_146 : decode cX7_tie 146 = .ok (.getfield 7, 3) := by decide +kernel
theorem dX7_tie_149 : decode cX7_tie 149 = .ok (.sipush 149, 3) := by decide +kernel
theorem dX7_tie_152 : decode cX7_tie 152 = .ok (.dup2, 1) := by decide +kernel
theorem dX7_tie_153 : decode cX7_tie 153 = .ok (.iaload, 1) := by decide +kernel
theorem dX7_tie_154 : decode cX7_tie 154 = .ok (.iconst 1, 1) := by decide +kernel
theorem dX7_tie_155 : decode cX7_tie 155 = .ok (.iadd, 1) := by decide +kernel
theorem dX7_tie_156 : decode cX7_tie 156 = .ok (.iastore, 1) := by decide +kernel
theorem dX7_tie_157 : decode cX7_tie 157 = .ok (.aload_n 0, 1) := by decide +kernel
theorem dX7_tie_158 : decode cX7_tie 158 = .ok (.getfield 7, 3) := by decide +kernel
theorem dX7_tie_161 : decode cX7_tie 161 = .ok (.sipush 149, 3) := by decide +kernel
theorem dX7_tie_164 : decode cX7_tie 164 = .ok (.iaload, 1) := by decide +kernel
theorem dX7_tie_165 : decode cX7_tie 165 = .ok (.iconst 1, 1) := by decide +kernel
theorem dX7_tie_166 : decode cX7_tie 166 = .ok (.isub, 1) := by decide +kernel
theorem dX7_tie_167 : decode cX7_tie 167 = .ok (.ireturn, 1) := by decide +kernel
theorem dX7_cuts_0 : decode cX7_cuts 0 = .ok (.aload_n 0, 1) := by decide +kernel
theorem dX7_cuts_1 : decode cX7_cuts 1 = .ok (.getfield 7, 3) := by decide +kernel
theorem dX7_cuts_4 : decode cX7_cuts 4 = .ok (.sipush 149, 3) := by decide +kernel
theorem dX7_cuts_7 : decode cX7_cuts 7 = .ok (.dup2, 1) := by decide +kernel
theorem dX7_cuts_8 : decode cX7_cuts 8 = .ok (.iaload, 1) := by decide +kernel
theorem dX7_cuts_9 : decode cX7_cuts 9 = .ok (.iconst 1, 1) := by decide +kernel
theorem dX7_cuts_10 : decode cX7_cuts 10 = .ok (.isub, 1) := by decide +kernel
theorem dX7_cuts_11 : decode cX7_cuts 11 = .ok (.iastore, 1) := by decide +kernel
theorem dX7_cuts_12 : decode cX7_cuts 12 = .ok (.aload_n 0, 1) := by decide +kernel
theorem dX7_cuts_13 : decode cX7_cuts 13 = .ok (.getfield 7, 3) := by decide +kernel
theorem dX7_cuts_16 : decode cX7_cuts 16 = .ok (.sipush 154, 3) := by decide +kernel
theorem dX7_cuts_19 : decode cX7_cuts 19 = .ok (.dup2, 1) := by decide +kernel
theorem dX7_cuts_20 : decode cX7_cuts 20 = .ok (.iaload, 1) := by decide +kernel
theorem dX7_cuts_21 : decode cX7_cuts 21 = .ok (.iconst 1, 1) := by decide +kernel
theorem dX7_cuts_22 : decode cX7_cuts 22 = .ok (.iadd, 1) := by decide +kernel
theorem dX7_cuts_23 : decode cX7_cuts 23 = .ok (.iastore, 1) := by decide +kernel
theorem dX7_cuts_24 : decode cX7_cuts 24 = .ok (.bipush 36, 2) := by decide +kernel
theorem dX7_cuts_26 : decode cX7_cuts 26 = .ok (.iconst 4, 1) := by decide +kernel
theorem dX7_cuts_27 : decode cX7_cuts 27 = .ok (.iload_n 1, 1) := by decide +kernel
theorem dX7_cuts_28 : decode cX7_cuts 28 = .ok (.imul, 1) := by decide +kernel
theorem dX7_cuts_29 : decode cX7_cuts 29 = .ok (.iadd, 1) := by decide +kernel
theorem dX7_cuts_30 : decode cX7_cuts 30 = .ok (.istore_n 2, 1) := by decide +kernel
theorem dX7_cuts_31 : decode cX7_cuts 31 = .ok (.iload_n 2, 1) := by decide +kernel
theorem dX7_cuts_32 : decode cX7_cuts 32 = .ok (.bipush 36, 2) := by decide +kernel
theorem dX7_cuts_34 : decode cX7_cuts 34 = .ok (.iconst 4, 1) := by decide +kernel
theorem dX7_cuts_35 : decode cX7_cuts 35 = .ok (.aload_n 0, 1) := by decide +kernel
theorem dX7_cuts_36 : decode cX7_cuts 36 = .ok (.getfield 7, 3) := by decide +kernel
theorem dX7_cuts_39 : decode cX7_cuts 39 = .ok (.sipush 149, 3) := by decide +kernel
theorem dX7_cuts_42 : decode cX7_cuts 42 = .ok (.iaload, 1) := by decide +kernel
theorem dX7_cuts_43 : decode cX7_cuts 43 = .ok (.imul, 1) := by decide +kernel
theorem dX7_cuts_44 : decode cX7_cuts 44 = .ok (.iadd, 1) := by decide +kernel
theorem dX7_cuts_45 : decode cX7_cuts 45 = .ok (.if_icmp .ge 23, 3) := by decide +kernel
theorem dX7_cuts_48 : decode cX7_cuts 48 = .ok (.aload_n 0, 1) := by decide +kernel
theorem dX7_cuts_49 : decode cX7_cuts 49 = .ok (.getfield 7, 3) := by decide +kernel
theorem dX7_cuts_52 : decode cX7_cuts 52 = .ok (.iload_n 2, 1) := by decide +kernel
theorem dX7_cuts_53 : decode cX7_cuts 53 = .ok (.aload_n 0, 1) := by decide +kernel
theorem dX7_cuts_54 : decode cX7_cuts 54 = .ok (.getfield 7, 3) := by decide +kernel
theorem dX7_cuts_57 : decode cX7_cuts 57 = .ok (.iload_n 2, 1) := by decide +kernel
theorem dX7_cuts_58 : decode cX7_cuts 58 = .ok (.iconst 4, 1) := by decide +kernel
theorem dX7_cuts_59 : decode cX7_cuts 59 = .ok (.iadd, 1) := by decide +kernel
theorem dX7_cuts_60 : decode cX7_cuts 60 = .ok (.iaload, 1) := by decide +kernel
theorem dX7_cuts_61 : decode cX7_cuts 61 = .ok (.iastore, 1) := by decide +kernel
theorem dX7_cuts_62 : decode cX7_cuts 62 = .ok (.iinc 2 1, 3) := by decide +kernel
theorem dX7_cuts_65 : decode cX7_cuts 65 = .ok (.goto (-34), 3) := by decide +kernel
theorem dX7_cuts_68 : decode cX7_cuts 68 = .ok (.return_, 1) := by decide +kernel
theorem dX7_cut_0 : decode cX7_cut 0 = .ok (.aload_n 0, 1) := by decide +kernel
theorem dX7_cut_1 : decode cX7_cut 1 = .ok (.iload_n 1, 1) := by decide +kernel
theorem dX7_cut_2 : decode cX7_cut 2 = .ok (.invokevirtual 102, 3) := by decide +kernel
theorem dX7_cut_5 : decode cX7_cut 5 = .ok (.ifCond .ne 6, 3) := by decide +kernel
theorem dX7_cut_8 : decode cX7_cut 8 = .ok (.ldc 96, 2) := by decide +kernel
theorem dX7_cut_10 : decode cX7_cut 10 = .ok (.ireturn, 1) := by decide +kernel
theorem dX7_cut_11 : decode cX7_cut 11 = .ok (.aload_n 0, 1) := by decide +kernel
theorem dX7_cut_12 : decode cX7_cut 12 = .ok (.invokevirtual 98, 3) := by decide +kernel
theorem dX7_cut_15 : decode cX7_cut 15 = .ok (.aload_n 0, 1) := by decide +kernel
theorem dX7_cut_16 : decode cX7_cut 16 = .ok (.iload_n 1, 1) := by decide +kernel
theorem dX7_cut_17 : decode cX7_cut 17 = .ok (.invokevirtual 105, 3) := by decide +kernel
theorem dX7_cut_20 : decode cX7_cut 20 = .ok (.aload_n 0, 1) := by decide +kernel
theorem dX7_cut_21 : decode cX7_cut 21 = .ok (.getfield 7, 3) := by decide +kernel
theorem dX7_cut_24 : decode cX7_cut 24 = .ok (.sipush 149, 3) := by decide +kernel
theorem dX7_cut_27 : decode cX7_cut 27 = .ok (.iaload, 1) := by decide +kernel
theorem dX7_cut_28 : decode cX7_cut 28 = .ok (.ireturn, 1) := by decide +kernel
theorem dX7_ofDeal_0 : decode cX7_ofDeal 0 = .ok (.iconst 0, 1) := by decide +kernel
theorem dX7_ofDeal_1 : decode cX7_ofDeal 1 = .ok (.istore_n 2, 1) := by decide +kernel
theorem dX7_ofDeal_2 : decode cX7_ofDeal 2 = .ok (.iconst 0, 1) := by decide +kernel
theorem dX7_ofDeal_3 : decode cX7_ofDeal 3 = .ok (.istore_n 3, 1) := by decide +kernel
theorem dX7_ofDeal_4 : decode cX7_ofDeal 4 = .ok (.iload_n 3, 1) := by decide +kernel
theorem dX7_ofDeal_5 : decode cX7_ofDeal 5 = .ok (.aload_n 0, 1) := by decide +kernel
theorem dX7_ofDeal_6 : decode cX7_ofDeal 6 = .ok (.getfield 7, 3) := by decide +kernel
theorem dX7_ofDeal_9 : decode cX7_ofDeal 9 = .ok (.sipush 149, 3) := by decide +kernel
theorem dX7_ofDeal_12 : decode cX7_ofDeal 12 = .ok (.iaload, 1) := by decide +kernel
theorem dX7_ofDeal_13 : decode cX7_ofDeal 13 = .ok (.if_icmp .ge 27, 3) := by decide +kernel
theorem dX7_ofDeal_16 : decode cX7_ofDeal 16 = .ok (.iload_n 2, 1) := by decide +kernel
theorem dX7_ofDeal_17 : decode cX7_ofDeal 17 = .ok (.aload_n 0, 1) := by decide +kernel
theorem dX7_ofDeal_18 : decode cX7_ofDeal 18 = .ok (.iload_n 3, 1) := by decide +kernel
theorem dX7_ofDeal_19 : decode cX7_ofDeal 19 = .ok (.iconst 3, 1) := by decide +kernel
theorem dX7_ofDeal_20 : decode cX7_ofDeal 20 = .ok (.invokevirtual 53, 3) := by decide +kernel
theorem dX7_ofDeal_23 : decode cX7_ofDeal 23 = .ok (.iload_n 1, 1) := by decide +kernel
theorem dX7_ofDeal_24 : decode cX7_ofDeal 24 = .ok (.if_icmp .ne 7, 3) := by decide +kernel
theorem dX7_ofDeal_27 : decode cX7_ofDeal 27 = .ok (.iconst 1, 1) := by decide +kernel
theorem dX7_ofDeal_28 : decode cX7_ofDeal 28 = .ok (.goto 4, 3) := by decide +kernel
theorem dX7_ofDeal_31 : decode cX7_ofDeal 31 = .ok (.iconst 0, 1) := by decide +kernel
theorem dX7_ofDeal_32 : decode cX7_ofDeal 32 = .ok (.iadd, 1) := by decide +kernel
theorem dX7_ofDeal_33 : decode cX7_ofDeal 33 = .ok (.istore_n 2, 1) := by decide +kernel
theorem dX7_ofDeal_34 : decode cX7_ofDeal 34 = .ok (.iinc 3 1, 3) := by decide +kernel
theorem dX7_ofDeal_37 : decode cX7_ofDeal 37 = .ok (.goto (-33), 3) := by decide +kernel
theorem dX7_ofDeal_40 : decode cX7_ofDeal 40 = .ok (.iload_n 2, 1) := by decide +kernel
theorem dX7_ofDeal_41 : decode cX7_ofDeal 41 = .ok (.ireturn, 1) := by decide +kernel
theorem dX7_cutDeal_0 : decode cX7_cutDeal 0 = .ok (.iload_n 1, 1) := by decide +kernel
theorem dX7_cutDeal_1 : decode cX7_cutDeal 1 = .ok (.iconst 0, 1) := by decide +kernel
theorem dX7_cutDeal_2 : decode cX7_cutDeal 2 = .ok (.iconst 5, 1) := by decide +kernel
theorem dX7_cutDeal_3 : decode cX7_cutDeal 3 = .ok (.invokestatic 45, 3) := by decide +kernel
theorem dX7_cutDeal_6 : decode cX7_cutDeal 6 = .ok (.ifCond .ne 6, 3) := by decide +kernel
theorem dX7_cutDeal_9 : decode cX7_cutDeal 9 = .ok (.ldc 96, 2) := by decide +kernel
theorem dX7_cutDeal_11 : decode cX7_cutDeal 11 = .ok (.ireturn, 1) := by decide +kernel
theorem dX7_cutDeal_12 : decode cX7_cutDeal 12 = .ok (.aload_n 0, 1) := by decide +kernel
theorem dX7_cutDeal_13 : decode cX7_cutDeal 13 = .ok (.iload_n 1, 1) := by decide +kernel
theorem dX7_cutDeal_14 : decode cX7_cutDeal 14 = .ok (.invokevirtual 108, 3) := by decide +kernel
theorem dX7_cutDeal_17 : decode cX7_cutDeal 17 = .ok (.istore_n 2, 1) := by decide +kernel
theorem dX7_cutDeal_18 : decode cX7_cutDeal 18 = .ok (.iload_n 2, 1) := by decide +kernel
theorem dX7_cutDeal_19 : decode cX7_cutDeal 19 = .ok (.ifCond .ne 6, 3) := by decide +kernel
theorem dX7_cutDeal_22 : decode cX7_cutDeal 22 = .ok (.ldc 101, 2) := by decide +kernel
theorem dX7_cutDeal_24 : decode cX7_cutDeal 24 = .ok (.ireturn, 1) := by decide +kernel
theorem dX7_cutDeal_25 : decode cX7_cutDeal 25 = .ok (.aload_n 0, 1) := by decide +kernel
theorem dX7_cutDeal_26 : decode cX7_cutDeal 26 = .ok (.invokevirtual 98, 3) := by decide +kernel
theorem dX7_cutDeal_29 : decode cX7_cutDeal 29 = .ok (.aload_n 0, 1) := by decide +kernel
theorem dX7_cutDeal_30 : decode cX7_cutDeal 30 = .ok (.getfield 7, 3) := by decide +kernel
theorem dX7_cutDeal_33 : decode cX7_cutDeal 33 = .ok (.sipush 149, 3) := by decide +kernel
theorem dX7_cutDeal_36 : decode cX7_cutDeal 36 = .ok (.iaload, 1) := by decide +kernel
theorem dX7_cutDeal_37 : decode cX7_cutDeal 37 = .ok (.iconst 1, 1) := by decide +kernel
theorem dX7_cutDeal_38 : decode cX7_cutDeal 38 = .ok (.isub, 1) := by decide +kernel
theorem dX7_cutDeal_39 : decode cX7_cutDeal 39 = .ok (.istore_n 3, 1) := by decide +kernel
theorem dX7_cutDeal_40 : decode cX7_cutDeal 40 = .ok (.iload_n 3, 1) := by decide +kernel
theorem dX7_cutDeal_41 : decode cX7_cutDeal 41 = .ok (.ifCond .lt 24, 3) := by decide +kernel
theorem dX7_cutDeal_44 : decode cX7_cutDeal 44 = .ok (.aload_n 0, 1) := by decide +kernel
theorem dX7_cutDeal_45 : decode cX7_cutDeal 45 = .ok (.iload_n 3, 1) := by decide +kernel
theorem dX7_cutDeal_46 : decode cX7_cutDeal 46 = .ok (.iconst 3, 1) := by decide +kernel
theorem dX7_cutDeal_47 : decode cX7_cutDeal 47 = .ok (.invokevirtual 53, 3) := by decide +kernel
theorem dX7_cutDeal_50 : decode cX7_cutDeal 50 = .ok (.iload_n 1, 1) := by decide +kernel
theorem dX7_cutDeal_51 : decode cX7_cutDeal 51 = .ok (.if_icmp .ne 8, 3) := by decide +kernel
theorem dX7_cutDeal_54 : decode cX7_cutDeal 54 = .ok (.aload_n 0, 1) := by decide +kernel
theorem dX7_cutDeal_55 : decode cX7_cutDeal 55 = .ok (.iload_n 3, 1) := by decide +kernel
theorem dX7_cutDeal_56 : decode cX7_cutDeal 56 = .ok (.invokevirtual 105, 3) := by decide +kernel
theorem dX7_cutDeal_59 : decode cX7_cutDeal 59 = .ok (.iinc 3 (-1), 3) := by decide +kernel
theorem dX7_cutDeal_62 : decode cX7_cutDeal 62 = .ok (.goto (-22), 3) := by decide +kernel
theorem dX7_cutDeal_65 : decode cX7_cutDeal 65 = .ok (.iload_n 2, 1) := by decide +kernel
theorem dX7_cutDeal_66 : decode cX7_cutDeal 66 = .ok (.ireturn, 1) := by decide +kernel
theorem dX7_manyPulled_0 : decode cX7_manyPulled 0 = .ok (.iconst 0, 1) := by decide +kernel
theorem dX7_manyPulled_1 : decode cX7_manyPulled 1 = .ok (.istore_n 2, 1) := by decide +kernel
theorem dX7_manyPulled_2 : decode cX7_manyPulled 2 = .ok (.iconst 0, 1) := by decide +kernel
theorem dX7_manyPulled_3 : decode cX7_manyPulled 3 = .ok (.istore_n 3, 1) := by decide +kernel
theorem dX7_manyPulled_4 : decode cX7_manyPulled 4 = .ok (.iload_n 3, 1) := by decide +kernel
theorem dX7_manyPulled_5 : decode cX7_manyPulled 5 = .ok (.aload_n 0, 1) := by decide +kernel
theorem dX7_manyPulled_6 : decode cX7_manyPulled 6 = .ok (.getfield 7, 3) := by decide +kernel
theorem dX7_manyPulled_9 : decode cX7_manyPulled 9 = .ok (.sipush 148, 3) := by decide +kernel
theorem dX7_manyPulled_12 : decode cX7_manyPulled 12 = .ok (.iaload, 1) := by decide +kernel
theorem dX7_manyPulled_13 : decode cX7_manyPulled 13 = .ok (.if_icmp .ge 31, 3) := by decide +kernel
theorem dX7_manyPulled_16 : decode cX7_manyPulled 16 = .ok (.iload_n 2, 1) := by decide +kernel
theorem dX7_manyPulled_17 : decode cX7_manyPulled 17 = .ok (.iload_n 3, 1) := by decide +kernel
theorem dX7_manyPulled_18 : decode cX7_manyPulled 18 = .ok (.iload_n 1, 1) := by decide +kernel
theorem dX7_manyPulled_19 : decode cX7_manyPulled 19 = .ok (.if_icmp .eq 16, 3) := by decide +kernel
theorem dX7_manyPulled_22 : decode cX7_manyPulled 22 = .ok (.aload_n 0, 1) := by decide +kernel
theorem dX7_manyPulled_23 : decode cX7_manyPulled 23 = .ok (.iload_n 3, 1) := by decide +kernel
theorem dX7_manyPulled_24 : decode cX7_manyPulled 24 = .ok (.iconst 2, 1) := by decide +kernel
theorem dX7_manyPulled_25 : decode cX7_manyPulled 25 = .ok (.invokevirtual 61, 3) := by decide +kernel
theorem dX7_manyPulled_28 : decode cX7_manyPulled 28 = .ok (.ifCond .le 7, 3) := by decide +kernel
theorem dX7_manyPulled_31 : decode cX7_manyPulled 31 = .ok (.iconst 1, 1) := by decide +kernel
theorem dX7_manyPulled_32 : decode cX7_manyPulled 32 = .ok (.goto 4, 3) := by decide +kernel
theorem dX7_manyPulled_35 : decode cX7_manyPulled 35 = .ok (.iconst 0, 1) := by decide +kernel
theorem dX7_manyPulled_36 : decode cX7_manyPulled 36 = .ok (.iadd, 1) := by decide +kernel
theorem dX7_manyPulled_37 : decode cX7_manyPulled 37 = .ok (.istore_n 2, 1) := by decide +kernel
theorem dX7_manyPulled_38 : decode cX7_manyPulled 38 = .ok (.iinc 3 1, 3) := by decide +kernel
theorem dX7_manyPulled_41 : decode cX7_manyPulled 41 = .ok (.goto (-37), 3) := by decide +kernel
theorem dX7_manyPulled_44 : decode cX7_manyPulled 44 = .ok (.iload_n 2, 1) := by decide +kernel
theorem dX7_manyPulled_45 : decode cX7_manyPulled 45 = .ok (.ireturn, 1) := by decide +kernel
theorem dX7_barred_0 : decode cX7_barred 0 = .ok (.iload_n 1, 1) := by decide +kernel
theorem dX7_barred_1 : decode cX7_barred 1 = .ok (.aload_n 0, 1) := by decide +kernel
theorem dX7_barred_2 : decode cX7_barred 2 = .ok (.getfield 7, 3) := by decide +kernel
theorem dX7_barred_5 : decode cX7_barred 5 = .ok (.sipush 150, 3) := by decide +kernel
theorem dX7_barred_8 : decode cX7_barred 8 = .ok (.iaload, 1) := by decide +kernel
theorem dX7_barred_9 : decode cX7_barred 9 = .ok (.if_icmp .ne 5, 3) := by decide +kernel
theorem dX7_barred_12 : decode cX7_barred 12 = .ok (.iconst 1, 1) := by decide +kernel
theorem dX7_barred_13 : decode cX7_barred 13 = .ok (.ireturn, 1) := by decide +kernel
theorem dX7_barred_14 : decode cX7_barred 14 = .ok (.aload_n 0, 1) := by decide +kernel
theorem dX7_barred_15 : decode cX7_barred 15 = .ok (.ldc 60, 2) := by decide +kernel
theorem dX7_barred_17 : decode cX7_barred 17 = .ok (.invokevirtual 71, 3) := by decide +kernel
theorem dX7_barred_20 : decode cX7_barred 20 = .ok (.aload_n 0, 1) := by decide +kernel
theorem dX7_barred_21 : decode cX7_barred 21 = .ok (.aload_n 0, 1) := by decide +kernel
theorem dX7_barred_22 : decode cX7_barred 22 = .ok (.getfield 22, 3) := by decide +kernel
theorem dX7_barred_25 : decode cX7_barred 25 = .ok (.iload_n 1, 1) := by decide +kernel
theorem dX7_barred_26 : decode cX7_barred 26 = .ok (.iaload, 1) := by decide +kernel
theorem dX7_barred_27 : decode cX7_barred 27 = .ok (.iload_n 1, 1) := by decide +kernel
theorem dX7_barred_28 : decode cX7_barred 28 = .ok (.invokevirtual 64, 3) := by decide +kernel
theorem dX7_barred_31 : decode cX7_barred 31 = .ok (.istore_n 3, 1) := by decide +kernel
theorem dX7_barred_32 : decode cX7_barred 32 = .ok (.iload_n 3, 1) := by decide +kernel
theorem dX7_barred_33 : decode cX7_barred 33 = .ok (.ifCond .lt 19, 3) := by decide +kernel
theorem dX7_barred_36 : decode cX7_barred 36 = .ok (.iload_n 3, 1) := by decide +kernel
theorem dX7_barred_37 : decode cX7_barred 37 = .ok (.aload_n 0, 1) := by decide +kernel
theorem dX7_barred_38 : decode cX7_barred 38 = .ok (.getfield 25, 3) := by decide +kernel
theorem dX7_barred_41 : decode cX7_barred 41 = .ok (.iload_n 1, 1) := by decide +kernel
theorem dX7_barred_42 : decode cX7_barred 42 = .ok (.iaload, 1) := by decide +kernel
theorem dX7_barred_43 : decode cX7_barred 43 = .ok (.ixor, 1) := by decide +kernel
theorem dX7_barred_44 : decode cX7_barred 44 = .ok (.iload_n 2, 1) := by decide +kernel
theorem dX7_barred_45 : decode cX7_barred 45 = .ok (.if_icmp .eq 7, 3) := by decide +kernel
theorem dX7_barred_48 : decode cX7_barred 48 = .ok (.iconst 2, 1) := by decide +kernel
theorem dX7_barred_49 : decode cX7_barred 49 = .ok (.goto 24, 3) := by decide +kernel
theorem dX7_barred_52 : decode cX7_barred 52 = .ok (.aload_n 0, 1) := by decide +kernel
theorem dX7_barred_53 : decode cX7_barred 53 = .ok (.iload_n 1, 1) := by decide +kernel
theorem dX7_barred_54 : decode cX7_barred 54 = .ok (.invokevirtual 111, 3) := by decide +kernel
theorem dX7_barred_57 : decode cX7_barred 57 = .ok (.aload_n 0, 1) := by decide +kernel
theorem dX7_barred_58 : decode cX7_barred 58 = .ok (.getfield 7, 3) := by decide +kernel
theorem dX7_barred_61 : decode cX7_barred 61 = .ok (.sipush 155, 3) := by decide +kernel
theorem dX7_barred_64 : decode cX7_barred 64 = .ok (.iaload, 1) := by decide +kernel
theorem dX7_barred_65 : decode cX7_barred 65 = .ok (.if_icmp .lt 7, 3) := by decide +kernel
theorem dX7_barred_68 : decode cX7_barred 68 = .ok (.iconst 3, 1) := by decide +kernel
theorem dX7_barred_69 : decode cX7_barred 69 = .ok (.goto 4, 3) := by decide +kernel
theorem dX7_barred_72 : decode cX7_barred 72 = .ok (.iconst 0, 1) := by decide +kernel
theorem dX7_barred_73 : decode cX7_barred 73 = .ok (.ireturn, 1) := by decide +kernel
theorem dX7_whyPull_0 : decode cX7_whyPull 0 = .ok (.aload_n 0, 1) := by decide +kernel
theorem dX7_whyPull_1 : decode cX7_whyPull 1 = .ok (.iload_n 1, 1) := by decide +kernel
theorem dX7_whyPull_2 : decode cX7_whyPull 2 = .ok (.invokevirtual 49, 3) := by decide +kernel
theorem dX7_whyPull_5 : decode cX7_whyPull 5 = .ok (.ifCond .eq 21, 3) := by decide +kernel
theorem dX7_whyPull_8 : decode cX7_whyPull 8 = .ok (.iload_n 2, 1) := by decide +kernel
theorem dX7_whyPull_9 : decode cX7_whyPull 9 = .ok (.iconst 0, 1) := by decide +kernel
theorem dX7_whyPull_10 : decode cX7_whyPull 10 = .ok (.iconst 1, 1) := by decide +kernel
theorem dX7_whyPull_11 : decode cX7_whyPull 11 = .ok (.invokestatic 45, 3) := by decide +kernel
theorem dX7_whyPull_14 : decode cX7_whyPull 14 = .ok (.ifCond .eq 12, 3) := by decide +kernel
theorem dX7_whyPull_17 : decode cX7_whyPull 17 = .ok (.aload_n 0, 1) := by decide +kernel
theorem dX7_whyPull_18 : decode cX7_whyPull 18 = .ok (.iload_n 1, 1) := by decide +kernel
theorem dX7_whyPull_19 : decode cX7_whyPull 19 = .ok (.iload_n 2, 1) := by decide +kernel
theorem dX7_whyPull_20 : decode cX7_whyPull 20 = .ok (.invokevirtual 114, 3) := by decide +kernel
theorem dX7_whyPull_23 : decode cX7_whyPull 23 = .ok (.goto 5, 3) := by decide +kernel
theorem dX7_whyPull_26 : decode cX7_whyPull 26 = .ok (.ldc 96, 2) := by decide +kernel
theorem dX7_whyPull_28 : decode cX7_whyPull 28 = .ok (.ireturn, 1) := by decide +kernel
theorem dX7_pull_0 : decode cX7_pull 0 = .ok (.aload_n 0, 1) := by decide +kernel
theorem dX7_pull_1 : decode cX7_pull 1 = .ok (.iload_n 1, 1) := by decide +kernel
theorem dX7_pull_2 : decode cX7_pull 2 = .ok (.invokevirtual 49, 3) := by decide +kernel
theorem dX7_pull_5 : decode cX7_pull 5 = .ok (.ifCond .eq 12, 3) := by decide +kernel
theorem dX7_pull_8 : decode cX7_pull 8 = .ok (.iload_n 2, 1) := by decide +kernel
theorem dX7_pull_9 : decode cX7_pull 9 = .ok (.iconst 0, 1) := by decide +kernel
theorem dX7_pull_10 : decode cX7_pull 10 = .ok (.iconst 1, 1) := by decide +kernel
theorem dX7_pull_11 : decode cX7_pull 11 = .ok (.invokestatic 45, 3) := by decide +kernel
theorem dX7_pull_14 : decode cX7_pull 14 = .ok (.ifCond .ne 6, 3) := by decide +kernel
theorem dX7_pull_17 : decode cX7_pull 17 = .ok (.ldc 96, 2) := by decide +kernel
theorem dX7_pull_19 : decode cX7_pull 19 = .ok (.ireturn, 1) := by decide +kernel
theorem dX7_pull_20 : decode cX7_pull 20 = .ok (.aload_n 0, 1) := by decide +kernel
theorem dX7_pull_21 : decode cX7_pull 21 = .ok (.iload_n 1, 1) := by decide +kernel
theorem dX7_pull_22 : decode cX7_pull 22 = .ok (.iload_n 2, 1) := by decide +kernel
theorem dX7_pull_23 : decode cX7_pull 23 = .ok (.invokevirtual 114, 3) := by decide +kernel
theorem dX7_pull_26 : decode cX7_pull 26 = .ok (.ifCond .le 6, 3) := by decide +kernel
theorem dX7_pull_29 : decode cX7_pull 29 = .ok (.ldc 101, 2) := by decide +kernel
theorem dX7_pull_31 : decode cX7_pull 31 = .ok (.ireturn, 1) := by decide +kernel
theorem dX7_pull_32 : decode cX7_pull 32 = .ok (.aload_n 0, 1) := by decide +kernel
theorem dX7_pull_33 : decode cX7_pull 33 = .ok (.invokevirtual 98, 3) := by decide +kernel
theorem dX7_pull_36 : decode cX7_pull 36 = .ok (.aload_n 0, 1) := by decide +kernel
theorem dX7_pull_37 : decode cX7_pull 37 = .ok (.getfield 7, 3) := by decide +kernel
theorem dX7_pull_40 : decode cX7_pull 40 = .ok (.iconst 3, 1) := by decide +kernel
theorem dX7_pull_41 : decode cX7_pull 41 = .ok (.iload_n 1, 1) := by decide +kernel
theorem dX7_pull_42 : decode cX7_pull 42 = .ok (.imul, 1) := by decide +kernel
theorem dX7_pull_43 : decode cX7_pull 43 = .ok (.iconst 2, 1) := by decide +kernel
theorem dX7_pull_44 : decode cX7_pull 44 = .ok (.iadd, 1) := by decide +kernel
theorem dX7_pull_45 : decode cX7_pull 45 = .ok (.iload_n 2, 1) := by decide +kernel
theorem dX7_pull_46 : decode cX7_pull 46 = .ok (.iconst 1, 1) := by decide +kernel
theorem dX7_pull_47 : decode cX7_pull 47 = .ok (.iadd, 1) := by decide +kernel
theorem dX7_pull_48 : decode cX7_pull 48 = .ok (.iastore, 1) := by decide +kernel
theorem dX7_pull_49 : decode cX7_pull 49 = .ok (.aload_n 0, 1) := by decide +kernel
theorem dX7_pull_50 : decode cX7_pull 50 = .ok (.invokevirtual 79, 3) := by decide +kernel
theorem dX7_pull_53 : decode cX7_pull 53 = .ok (.ireturn, 1) := by decide +kernel
theorem dX7_release_0 : decode cX7_release 0 = .ok (.aload_n 0, 1) := by decide +kernel
theorem dX7_release_1 : decode cX7_release 1 = .ok (.iload_n 1, 1) := by decide +kernel
theorem dX7_release_2 : decode cX7_release 2 = .ok (.invokevirtual 49, 3) := by decide +kernel
theorem dX7_release_5 : decode cX7_release 5 = .ok (.ifCond .ne 6, 3) := by decide +kernel
theorem dX7_release_8 : decode cX7_release 8 = .ok (.ldc 96, 2) := by decide +kernel
theorem dX7_release_10 : decode cX7_release 10 = .ok (.ireturn, 1) := by decide +kernel
theorem dX7_release_11 : decode cX7_release 11 = .ok (.aload_n 0, 1) := by decide +kernel
theorem dX7_release_12 : decode cX7_release 12 = .ok (.iload_n 1, 1) := by decide +kernel
theorem dX7_release_13 : decode cX7_release 13 = .ok (.iconst 2, 1) := by decide +kernel
theorem dX7_release_14 : decode cX7_release 14 = .ok (.invokevirtual 61, 3) := by decide +kernel
theorem dX7_release_17 : decode cX7_release 17 = .ok (.ifCond .ne 6, 3) := by decide +kernel
theorem dX7_release_20 : decode cX7_release 20 = .ok (.ldc 101, 2) := by decide +kernel
theorem dX7_release_22 : decode cX7_release 22 = .ok (.ireturn, 1) := by decide +kernel
theorem dX7_release_23 : decode cX7_release 23 = .ok (.aload_n 0, 1) := by decide +kernel
theorem dX7_release_24 : decode cX7_release 24 = .ok (.invokevirtual 98, 3) := by decide +kernel
theorem dX7_release_27 : decode cX7_release 27 = .ok (.aload_n 0, 1) := by decide +kernel
theorem dX7_release_28 : decode cX7_release 28 = .ok (.iload_n 1, 1) := by decide +kernel
theorem dX7_release_29 : decode cX7_release 29 = .ok (.iconst 2, 1) := by decide +kernel
theorem dX7_release_30 : decode cX7_release 30 = .ok (.invokevirtual 61, 3) := by decide +kernel
theorem dX7_release_33 : decode cX7_release 33 = .ok (.iconst 1, 1) := by decide +kernel
theorem dX7_release_34 : decode cX7_release 34 = .ok (.isub, 1) := by decide +kernel
theorem dX7_release_35 : decode cX7_release 35 = .ok (.istore_n 2, 1) := by decide +kernel
theorem dX7_release_36 : decode cX7_release 36 = .ok (.aload_n 0, 1) := by decide +kernel
theorem dX7_release_37 : decode cX7_release 37 = .ok (.getfield 7, 3) := by decide +kernel
theorem dX7_release_40 : decode cX7_release 40 = .ok (.iconst 3, 1) := by decide +kernel
theorem dX7_release_41 : decode cX7_release 41 = .ok (.iload_n 1, 1) := by decide +kernel
theorem dX7_release_42 : decode cX7_release 42 = .ok (.imul, 1) := by decide +kernel
theorem dX7_release_43 : decode cX7_release 43 = .ok (.iconst 2, 1) := by decide +kernel
theorem dX7_release_44 : decode cX7_release 44 = .ok (.iadd, 1) := by decide +kernel
theorem dX7_release_45 : decode cX7_release 45 = .ok (.iconst 0, 1) := by decide +kernel
theorem dX7_release_46 : decode cX7_release 46 = .ok (.iastore, 1) := by decide +kernel
theorem dX7_release_47 : decode cX7_release 47 = .ok (.iload_n 2, 1) := by decide +kernel
theorem dX7_release_48 : decode cX7_release 48 = .ok (.ireturn, 1) := by decide +kernel
theorem dX7_session_0 : decode cX7_session 0 = .ok (.aload_n 0, 1) := by decide +kernel
theorem dX7_session_1 : decode cX7_session 1 = .ok (.getfield 7, 3) := by decide +kernel
theorem dX7_session_4 : decode cX7_session 4 = .ok (.sipush 148, 3) := by decide +kernel
theorem dX7_session_7 : decode cX7_session 7 = .ok (.iaload, 1) := by decide +kernel
theorem dX7_session_8 : decode cX7_session 8 = .ok (.ifCond .ne 6, 3) := by decide +kernel
theorem dX7_session_11 : decode cX7_session 11 = .ok (.ldc 101, 2) := by decide +kernel
theorem dX7_session_13 : decode cX7_session 13 = .ok (.ireturn, 1) := by decide +kernel
theorem dX7_session_14 : decode cX7_session 14 = .ok (.aload_n 0, 1) := by decide +kernel
theorem dX7_session_15 : decode cX7_session 15 = .ok (.getfield 7, 3) := by decide +kernel
theorem dX7_session_18 : decode cX7_session 18 = .ok (.sipush 151, 3) := by decide +kernel
theorem dX7_session_21 : decode cX7_session 21 = .ok (.iaload, 1) := by decide +kernel
theorem dX7_session_22 : decode cX7_session 22 = .ok (.sipush 999, 3) := by decide +kernel
theorem dX7_session_25 : decode cX7_session 25 = .ok (.if_icmp .ne 6, 3) := by decide +kernel
theorem dX7_session_28 : decode cX7_session 28 = .ok (.ldc 97, 2) := by decide +kernel
theorem dX7_session_30 : decode cX7_session 30 = .ok (.ireturn, 1) := by decide +kernel
theorem dX7_session_31 : decode cX7_session 31 = .ok (.aload_n 0, 1) := by decide +kernel
theorem dX7_session_32 : decode cX7_session 32 = .ok (.invokevirtual 98, 3) := by decide +kernel
theorem dX7_session_35 : decode cX7_session 35 = .ok (.aload_n 0, 1) := by decide +kernel
theorem dX7_session_36 : decode cX7_session 36 = .ok (.invokevirtual 117, 3) := by decide +kernel
theorem dX7_session_39 : decode cX7_session 39 = .ok (.istore_n 1, 1) := by decide +kernel
theorem dX7_session_40 : decode cX7_session 40 = .ok (.aload_n 0, 1) := by decide +kernel
theorem dX7_session_41 : decode cX7_session 41 = .ok (.invokevirtual 75, 3) := by decide +kernel
theorem dX7_session_44 : decode cX7_session 44 = .ok (.istore_n 2, 1) := by decide +kernel
theorem dX7_session_45 : decode cX7_session 45 = .ok (.bipush 31, 2) := by decide +kernel
theorem dX7_session_47 : decode cX7_session 47 = .ok (.istore_n 3, 1) := by decide +kernel
theorem dX7_session_48 : decode cX7_session 48 = .ok (.iload_n 3, 1) := by decide +kernel
theorem dX7_session_49 : decode cX7_session 49 = .ok (.iconst 4, 1) := by decide +kernel
theorem dX7_session_50 : decode cX7_session 50 = .ok (.if_icmp .lt 29, 3) := by decide +kernel
theorem dX7_session_53 : decode cX7_session 53 = .ok (.aload_n 0, 1) := by decide +kernel
theorem dX7_session_54 : decode cX7_session 54 = .ok (.getfield 7, 3) := by decide +kernel
theorem dX7_session_57 : decode cX7_session 57 = .ok (.bipush 116, 2) := by decide +kernel
theorem dX7_session_59 : decode cX7_session 59 = .ok (.iload_n 3, 1) := by decide +kernel
theorem dX7_session_60 : decode cX7_session 60 = .ok (.iadd, 1) := by decide +kernel
theorem dX7_session_61 : decode cX7_session 61 = .ok (.aload_n 0, 1) := by decide +kernel
theorem dX7_session_62 : decode cX7_session 62 = .ok (.getfield 7, 3) := by decide +kernel
theorem dX7_session_65 : decode cX7_session 65 = .ok (.bipush 116, 2) := by decide +kernel
theorem dX7_session_67 : decode cX7_session 67 = .ok (.iload_n 3, 1) := by decide +kernel
theorem dX7_session_68 : decode cX7_session 68 = .ok (.iadd, 1) := by decide +kernel
theorem dX7_session_69 : decode cX7_session 69 = .ok (.iconst 4, 1) := by decide +kernel
theorem dX7_session_70 : decode cX7_session 70 = .ok (.isub, 1) := by decide +kernel
theorem dX7_session_71 : decode cX7_session 71 = .ok (.iaload, 1) := by decide +kernel
theorem dX7_session_72 : decode cX7_session 72 = .ok (.iastore, 1) := by decide +kernel
theorem dX7_session_73 : decode cX7_session 73 = .ok (.iinc 3 (-1), 3) := by decide +kernel
theorem dX7_session_76 : decode cX7_session 76 = .ok (.goto (-28), 3) := by decide +kernel
theorem dX7_session_79 : decode cX7_session 79 = .ok (.aload_n 0, 1) := by decide +kernel
theorem dX7_session_80 : decode cX7_session 80 = .ok (.getfield 7, 3) := by decide +kernel
theorem dX7_session_83 : decode cX7_session 83 = .ok (.bipush 116, 2) := by decide +kernel
theorem dX7_session_85 : decode cX7_session 85 = .ok (.iload_n 2, 1) := by decide +kernel
theorem dX7_session_86 : decode cX7_session 86 = .ok (.iastore, 1) := by decide +kernel
theorem dX7_session_87 : decode cX7_session 87 = .ok (.aload_n 0, 1) := by decide +kernel
theorem dX7_session_88 : decode cX7_session 88 = .ok (.getfield 7, 3) := by decide +kernel
theorem dX7_session_91 : decode cX7_session 91 = .ok (.bipush 117, 2) := by decide +kernel
theorem dX7_session_93 : decode cX7_session 93 = .ok (.aload_n 0, 1) := by decide +kernel
theorem dX7_session_94 : decode cX7_session 94 = .ok (.invokevirtual 82, 3) := by decide +kernel
theorem dX7_session_97 : decode cX7_session 97 = .ok (.iload_n 2, 1) := by decide +kernel
theorem dX7_session_98 : decode cX7_session 98 = .ok (.isub, 1) := by decide +kernel
theorem dX7_session_99 : decode cX7_session 99 = .ok (.iastore, 1) := by decide +kernel
theorem dX7_session_100 : decode cX7_session 100 = .ok (.aload_n 0, 1) := by decide +kernel
theorem dX7_session_101 : decode cX7_session 101 = .ok (.getfield 7, 3) := by decide +kernel
theorem dX7_session_104 : decode cX7_session 104 = .ok (.bipush 118, 2) := by decide +kernel
theorem dX7_session_106 : decode cX7_session 106 = .ok (.iload_n 1, 1) := by decide +kernel
theorem dX7_session_107 : decode cX7_session 107 = .ok (.ifCond .eq 7, 3) := by decide +kernel
theorem dX7_session_110 : decode cX7_session 110 = .ok (.iconst 1, 1) := by decide +kernel
theorem dX7_session_111 : decode cX7_session 111 = .ok (.goto 4, 3) := by decide +kernel
theorem dX7_session_114 : decode cX7_session 114 = .ok (.iconst 0, 1) := by decide +kernel
theorem dX7_session_115 : decode cX7_session 115 = .ok (.iastore, 1) := by decide +kernel
theorem dX7_session_116 : decode cX7_session 116 = .ok (.aload_n 0, 1) := by decide +kernel
theorem dX7_session_117 : decode cX7_session 117 = .ok (.getfield 7, 3) := by decide +kernel
theorem dX7_session_120 : decode cX7_session 120 = .ok (.bipush 119, 2) := by decide +kernel
theorem dX7_session_122 : decode cX7_session 122 = .ok (.aload_n 0, 1) := by decide +kernel
theorem dX7_session_123 : decode cX7_session 123 = .ok (.getfield 7, 3) := by decide +kernel
theorem dX7_session_126 : decode cX7_session 126 = .ok (.sipush 150, 3) := by decide +kernel
theorem dX7_session_129 : decode cX7_session 129 = .ok (.iaload, 1) := by decide +kernel
theorem dX7_session_130 : decode cX7_session 130 = .ok (.iastore, 1) := by decide +kernel
theorem dX7_session_131 : decode cX7_session 131 = .ok (.aload_n 0, 1) := by decide +kernel
theorem dX7_session_132 : decode cX7_session 132 = .ok (.getfield 7, 3) := by decide +kernel
theorem dX7_session_135 : decode cX7_session 135 = .ok (.sipush 153, 3) := by decide +kernel
theorem dX7_session_138 : decode cX7_session 138 = .ok (.dup2, 1) := by decide +kernel
theorem dX7_session_139 : decode cX7_session 139 = .ok (.iaload, 1) := by decide +kernel
theorem dX7_session_140 : decode cX7_session 140 = .ok (.aload_n 0, 1) := by decide +kernel
theorem dX7_session_141 : decode cX7_session 141 = .ok (.getfield 7, 3) := by decide +kernel
theorem dX7_session_144 : decode cX7_session 144 = .ok (.sipush 153, 3) := by decide +kernel
theorem dX7_session_147 : decode cX7_session 147 = .ok (.iaload, 1) := by decide +kernel
theorem dX7_session_148 : decode cX7_session 148 = .ok (.bipush 8, 2) := by decide +kernel
theorem dX7_session_150 : decode cX7_session 150 = .ok (.if_icmp .ge 7, 3) := by decide +kernel
theorem dX7_session_153 : decode cX7_session 153 = .ok (.iconst 1, 1) := by decide +kernel
theorem dX7_session_154 : decode cX7_session 154 = .ok (.goto 4, 3) := by decide +kernel
theorem dX7_session_157 : decode cX7_session 157 = .ok (.iconst 0, 1) := by decide +kernel
theorem dX7_session_158 : decode cX7_session 158 = .ok (.iadd, 1) := by decide +kernel
theorem dX7_session_159 : decode cX7_session 159 = .ok (.iastore, 1) := by decide +kernel
theorem dX7_session_160 : decode cX7_session 160 = .ok (.aload_n 0, 1) := by decide +kernel
theorem dX7_session_161 : decode cX7_session 161 = .ok (.getfield 7, 3) := by decide +kernel
theorem dX7_session_164 : decode cX7_session 164 = .ok (.sipush 151, 3) := by decide +kernel
theorem dX7_session_167 : decode cX7_session 167 = .ok (.dup2, 1) := by decide +kernel
theorem dX7_session_168 : decode cX7_session 168 = .ok (.iaload, 1) := by decide +kernel
theorem dX7_session_169 : decode cX7_session 169 = .ok (.iconst 1, 1) := by decide +kernel
theorem dX7_session_170 : decode cX7_session 170 = .ok (.iadd, 1) := by decide +kernel
theorem dX7_session_171 : decode cX7_session 171 = .ok (.iastore, 1) := by decide +kernel
theorem dX7_session_172 : decode cX7_session 172 = .ok (.aload_n 0, 1) := by decide +kernel
theorem dX7_session_173 : decode cX7_session 173 = .ok (.getfield 7, 3) := by decide +kernel
theorem dX7_session_176 : decode cX7_session 176 = .ok (.sipush 152, 3) := by decide +kernel
theorem dX7_session_179 : decode cX7_session 179 = .ok (.dup2, 1) := by decide +kernel
theorem dX7_session_180 : decode cX7_session 180 = .ok (.iaload, 1) := by decide +kernel
theorem dX7_session_181 : decode cX7_session 181 = .ok (.iload_n 1, 1) := by decide +kernel
theorem dX7_session_182 : decode cX7_session 182 = .ok (.ifCond .eq 7, 3) := by decide +kernel
theorem dX7_session_185 : decode cX7_session 185 = .ok (.iconst 1, 1) := by decide +kernel
theorem dX7_session_186 : decode cX7_session 186 = .ok (.goto 4, 3) := by decide +kernel
theorem dX7_session_189 : decode cX7_session 189 = .ok (.iconst 0, 1) := by decide +kernel
theorem dX7_session_190 : decode cX7_session 190 = .ok (.iadd, 1) := by decide +kernel
theorem dX7_session_191 : decode cX7_session 191 = .ok (.iastore, 1) := by decide +kernel
theorem dX7_session_192 : decode cX7_session 192 = .ok (.aload_n 0, 1) := by decide +kernel
theorem dX7_session_193 : decode cX7_session 193 = .ok (.getfield 7, 3) := by decide +kernel
theorem dX7_session_196 : decode cX7_session 196 = .ok (.sipush 150, 3) := by decide +kernel
theorem dX7_session_199 : decode cX7_session 199 = .ok (.aload_n 0, 1) := by decide +kernel
theorem dX7_session_200 : decode cX7_session 200 = .ok (.getfield 7, 3) := by decide +kernel
theorem dX7_session_203 : decode cX7_session 203 = .ok (.sipush 150, 3) := by decide +kernel
theorem dX7_session_206 : decode cX7_session 206 = .ok (.iaload, 1) := by decide +kernel
theorem dX7_session_207 : decode cX7_session 207 = .ok (.iconst 1, 1) := by decide +kernel
theorem dX7_session_208 : decode cX7_session 208 = .ok (.iadd, 1) := by decide +kernel
theorem dX7_session_209 : decode cX7_session 209 = .ok (.aload_n 0, 1) := by decide +kernel
theorem dX7_session_210 : decode cX7_session 210 = .ok (.getfield 7, 3) := by decide +kernel
theorem dX7_session_213 : decode cX7_session 213 = .ok (.sipush 148, 3) := by decide +kernel
theorem dX7_session_216 : decode cX7_session 216 = .ok (.iaload, 1) := by decide +kernel
theorem dX7_session_217 : decode cX7_session 217 = .ok (.irem, 1) := by decide +kernel
theorem dX7_session_218 : decode cX7_session 218 = .ok (.iastore, 1) := by decide +kernel
theorem dX7_session_219 : decode cX7_session 219 = .ok (.iconst 0, 1) := by decide +kernel
theorem dX7_session_220 : decode cX7_session 220 = .ok (.istore_n 3, 1) := by decide +kernel
theorem dX7_session_221 : decode cX7_session 221 = .ok (.iload_n 3, 1) := by decide +kernel
theorem dX7_session_222 : decode cX7_session 222 = .ok (.aload_n 0, 1) := by decide +kernel
theorem dX7_session_223 : decode cX7_session 223 = .ok (.getfield 7, 3) := by decide +kernel
theorem dX7_session_226 : decode cX7_session 226 = .ok (.sipush 148, 3) := by decide +kernel
theorem dX7_session_229 : decode cX7_session 229 = .ok (.iaload, 1) := by decide +kernel
theorem dX7_session_230 : decode cX7_session 230 = .ok (.if_icmp .ge 20, 3) := by decide +kernel
theorem dX7_session_233 : decode cX7_session 233 = .ok (.aload_n 0, 1) := by decide +kernel
theorem dX7_session_234 : decode cX7_session 234 = .ok (.getfield 7, 3) := by decide +kernel
theorem dX7_session_237 : decode cX7_session 237 = .ok (.iconst 3, 1) := by decide +kernel
theorem dX7_session_238 : decode cX7_session 238 = .ok (.iload_n 3, 1) := by decide +kernel
theorem dX7_session_239 : decode cX7_session 239 = .ok (.imul, 1) := by decide +kernel
theorem dX7_session_240 : decode cX7_session 240 = .ok (.iconst 2, 1) := by decide +kernel
theorem dX7_session_241 : decode cX7_session 241 = .ok (.iadd, 1) := by decide +kernel
theorem dX7_session_242 : decode cX7_session 242 = .ok (.iconst 0, 1) := by decide +kernel
theorem dX7_session_243 : decode cX7_session 243 = .ok (.iastore, 1) := by decide +kernel
theorem dX7_session_244 : decode cX7_session 244 = .ok (.iinc 3 1, 3) := by decide +kernel
theorem dX7_session_247 : decode cX7_session 247 = .ok (.goto (-26), 3) := by decide +kernel
theorem dX7_session_250 : decode cX7_session 250 = .ok (.iload_n 1, 1) := by decide +kernel
theorem dX7_session_251 : decode cX7_session 251 = .ok (.ifCond .eq 7, 3) := by decide +kernel
theorem dX7_session_254 : decode cX7_session 254 = .ok (.iconst 1, 1) := by decide +kernel
theorem dX7_session_255 : decode cX7_session 255 = .ok (.goto 4, 3) := by decide +kernel
theorem dX7_session_258 : decode cX7_session 258 = .ok (.iconst 0, 1) := by decide +kernel
theorem dX7_session_259 : decode cX7_session 259 = .ok (.ireturn, 1) := by decide +kernel
theorem dX7_set_0 : decode cX7_set 0 = .ok (.iload_n 1, 1) := by decide +kernel
theorem dX7_set_1 : decode cX7_set 1 = .ok (.ifCond .ne 13, 3) := by decide +kernel
theorem dX7_set_4 : decode cX7_set 4 = .ok (.iload_n 2, 1) := by decide +kernel
theorem dX7_set_5 : decode cX7_set 5 = .ok (.iconst 0, 1) := by decide +kernel
theorem dX7_set_6 : decode cX7_set 6 = .ok (.bipush 12, 2) := by decide +kernel
theorem dX7_set_8 : decode cX7_set 8 = .ok (.invokestatic 45, 3) := by decide +kernel
theorem dX7_set_11 : decode cX7_set 11 = .ok (.ifCond .ne 6, 3) := by decide +kernel
theorem dX7_set_14 : decode cX7_set 14 = .ok (.ldc 96, 2) := by decide +kernel
theorem dX7_set_16 : decode cX7_set 16 = .ok (.ireturn, 1) := by decide +kernel
theorem dX7_set_17 : decode cX7_set 17 = .ok (.aload_n 0, 1) := by decide +kernel
theorem dX7_set_18 : decode cX7_set 18 = .ok (.invokevirtual 98, 3) := by decide +kernel
theorem dX7_set_21 : decode cX7_set 21 = .ok (.aload_n 0, 1) := by decide +kernel
theorem dX7_set_22 : decode cX7_set 22 = .ok (.getfield 7, 3) := by decide +kernel
theorem dX7_set_25 : decode cX7_set 25 = .ok (.sipush 155, 3) := by decide +kernel
theorem dX7_set_28 : decode cX7_set 28 = .ok (.iaload, 1) := by decide +kernel
theorem dX7_set_29 : decode cX7_set 29 = .ok (.istore_n 3, 1) := by decide +kernel
theorem dX7_set_30 : decode cX7_set 30 = .ok (.aload_n 0, 1) := by decide +kernel
theorem dX7_set_31 : decode cX7_set 31 = .ok (.getfield 7, 3) := by decide +kernel
theorem dX7_set_34 : decode cX7_set 34 = .ok (.sipush 155, 3) := by decide +kernel
theorem dX7_set_37 : decode cX7_set 37 = .ok (.iload_n 2, 1) := by decide +kernel
theorem dX7_set_38 : decode cX7_set 38 = .ok (.iastore, 1) := by decide +kernel
theorem dX7_set_39 : decode cX7_set 39 = .ok (.iload_n 3, 1) := by decide +kernel
theorem dX7_set_40 : decode cX7_set 40 = .ok (.ireturn, 1) := by decide +kernel
theorem dX7_tiesOf_0 : decode cX7_tiesOf 0 = .ok (.iconst 0, 1) := by decide +kernel
theorem dX7_tiesOf_1 : decode cX7_tiesOf 1 = .ok (.istore_n 2, 1) := by decide +kernel
theorem dX7_tiesOf_2 : decode cX7_tiesOf 2 = .ok (.iconst 0, 1) := by decide +kernel
theorem dX7_tiesOf_3 : decode cX7_tiesOf 3 = .ok (.istore_n 3, 1) := by decide +kernel
theorem dX7_tiesOf_4 : decode cX7_tiesOf 4 = .ok (.iload_n 3, 1) := by decide +kernel
theorem dX7_tiesOf_5 : decode cX7_tiesOf 5 = .ok (.aload_n 0, 1) := by decide +kernel
theorem dX7_tiesOf_6 : decode cX7_tiesOf 6 = .ok (.getfield 7, 3) := by decide +kernel
theorem dX7_tiesOf_9 : decode cX7_tiesOf 9 = .ok (.sipush 149, 3) := by decide +kernel
theorem dX7_tiesOf_12 : decode cX7_tiesOf 12 = .ok (.iaload, 1) := by decide +kernel
theorem dX7_tiesOf_13 : decode cX7_tiesOf 13 = .ok (.if_icmp .ge 37, 3) := by decide +kernel
theorem dX7_tiesOf_16 : decode cX7_tiesOf 16 = .ok (.iload_n 2, 1) := by decide +kernel
theorem dX7_tiesOf_17 : decode cX7_tiesOf 17 = .ok (.aload_n 0, 1) := by decide +kernel
theorem dX7_tiesOf_18 : decode cX7_tiesOf 18 = .ok (.iload_n 3, 1) := by decide +kernel
theorem dX7_tiesOf_19 : decode cX7_tiesOf 19 = .ok (.iconst 0, 1) := by decide +kernel
theorem dX7_tiesOf_20 : decode cX7_tiesOf 20 = .ok (.invokevirtual 53, 3) := by decide +kernel
theorem dX7_tiesOf_23 : decode cX7_tiesOf 23 = .ok (.iload_n 1, 1) := by decide +kernel
theorem dX7_tiesOf_24 : decode cX7_tiesOf 24 = .ok (.if_icmp .eq 13, 3) := by decide +kernel
theorem dX7_tiesOf_27 : decode cX7_tiesOf 27 = .ok (.aload_n 0, 1) := by decide +kernel
theorem dX7_tiesOf_28 : decode cX7_tiesOf 28 = .ok (.iload_n 3, 1) := by decide +kernel
theorem dX7_tiesOf_29 : decode cX7_tiesOf 29 = .ok (.iconst 1, 1) := by decide +kernel
theorem dX7_tiesOf_30 : decode cX7_tiesOf 30 = .ok (.invokevirtual 53, 3) := by decide +kernel
theorem dX7_tiesOf_33 : decode cX7_tiesOf 33 = .ok (.iload_n 1, 1) := by decide +kernel
theorem dX7_tiesOf_34 : decode cX7_tiesOf 34 = .ok (.if_icmp .ne 7, 3) := by decide +kernel
theorem dX7_tiesOf_37 : decode cX7_tiesOf 37 = .ok (.iconst 1, 1) := by decide +kernel
theorem dX7_tiesOf_38 : decode cX7_tiesOf 38 = .ok (.goto 4, 3) := by decide +kernel
theorem dX7_tiesOf_41 : decode cX7_tiesOf 41 = .ok (.iconst 0, 1) := by decide +kernel
theorem dX7_tiesOf_42 : decode cX7_tiesOf 42 = .ok (.iadd, 1) := by decide +kernel
theorem dX7_tiesOf_43 : decode cX7_tiesOf 43 = .ok (.istore_n 2, 1) := by decide +kernel
theorem dX7_tiesOf_44 : decode cX7_tiesOf 44 = .ok (.iinc 3 1, 3) := by decide +kernel
theorem dX7_tiesOf_47 : decode cX7_tiesOf 47 = .ok (.goto (-43), 3) := by decide +kernel
theorem dX7_tiesOf_50 : decode cX7_tiesOf 50 = .ok (.iload_n 2, 1) := by decide +kernel
theorem dX7_tiesOf_51 : decode cX7_tiesOf 51 = .ok (.ireturn, 1) := by decide +kernel
theorem dX7_groupOf_0 : decode cX7_groupOf 0 = .ok (.iconst 0, 1) := by decide +kernel
theorem dX7_groupOf_1 : decode cX7_groupOf 1 = .ok (.istore_n 2, 1) := by decide +kernel
theorem dX7_groupOf_2 : decode cX7_groupOf 2 = .ok (.iconst 0, 1) := by decide +kernel
theorem dX7_groupOf_3 : decode cX7_groupOf 3 = .ok (.istore_n 3, 1) := by decide +kernel
theorem dX7_groupOf_4 : decode cX7_groupOf 4 = .ok (.iload_n 3, 1) := by decide +kernel
theorem dX7_groupOf_5 : decode cX7_groupOf 5 = .ok (.aload_n 0, 1) := by decide +kernel
theorem dX7_groupOf_6 : decode cX7_groupOf 6 = .ok (.getfield 7, 3) := by decide +kernel
theorem dX7_groupOf_9 : decode cX7_groupOf 9 = .ok (.sipush 148, 3) := by decide +kernel
theorem dX7_groupOf_12 : decode cX7_groupOf 12 = .ok (.iaload, 1) := by decide +kernel
theorem dX7_groupOf_13 : decode cX7_groupOf 13 = .ok (.if_icmp .ge 34, 3) := by decide +kernel
theorem dX7_groupOf_16 : decode cX7_groupOf 16 = .ok (.iload_n 2, 1) := by decide +kernel
theorem dX7_groupOf_17 : decode cX7_groupOf 17 = .ok (.aload_n 0, 1) := by decide +kernel
theorem dX7_groupOf_18 : decode cX7_groupOf 18 = .ok (.getfield 22, 3) := by decide +kernel
theorem dX7_groupOf_21 : decode cX7_groupOf 21 = .ok (.iload_n 3, 1) := by decide +kernel
theorem dX7_groupOf_22 : decode cX7_groupOf 22 = .ok (.iaload, 1) := by decide +kernel
theorem dX7_groupOf_23 : decode cX7_groupOf 23 = .ok (.aload_n 0, 1) := by decide +kernel
theorem dX7_groupOf_24 : decode cX7_groupOf 24 = .ok (.getfield 22, 3) := by decide +kernel
theorem dX7_groupOf_27 : decode cX7_groupOf 27 = .ok (.iload_n 1, 1) := by decide +kernel
theorem dX7_groupOf_28 : decode cX7_groupOf 28 = .ok (.iaload, 1) := by decide +kernel
theorem dX7_groupOf_29 : decode cX7_groupOf 29 = .ok (.if_icmp .ne 9, 3) := by decide +kernel
theorem dX7_groupOf_32 : decode cX7_groupOf 32 = .ok (.iconst 1, 1) := by decide +kernel
theorem dX7_groupOf_33 : decode cX7_groupOf 33 = .ok (.iload_n 3, 1) := by decide +kernel
theorem dX7_groupOf_34 : decode cX7_groupOf 34 = .ok (.ishl, 1) := by decide +kernel
theorem dX7_groupOf_35 : decode cX7_groupOf 35 = .ok (.goto 4, 3) := by decide +kernel
theorem dX7_groupOf_38 : decode cX7_groupOf 38 = .ok (.iconst 0, 1) := by decide +kernel
theorem dX7_groupOf_39 : decode cX7_groupOf 39 = .ok (.ior, 1) := by decide +kernel
theorem dX7_groupOf_40 : decode cX7_groupOf 40 = .ok (.istore_n 2, 1) := by decide +kernel
theorem dX7_groupOf_41 : decode cX7_groupOf 41 = .ok (.iinc 3 1, 3) := by decide +kernel
theorem dX7_groupOf_44 : decode cX7_groupOf 44 = .ok (.goto (-40), 3) := by decide +kernel
theorem dX7_groupOf_47 : decode cX7_groupOf 47 = .ok (.iload_n 2, 1) := by decide +kernel
theorem dX7_groupOf_48 : decode cX7_groupOf 48 = .ok (.ireturn, 1) := by decide +kernel
theorem dX7_groupSeats_0 : decode cX7_groupSeats 0 = .ok (.iconst 0, 1) := by decide +kernel
theorem dX7_groupSeats_1 : decode cX7_groupSeats 1 = .ok (.istore_n 2, 1) := by decide +kernel
theorem dX7_groupSeats_2 : decode cX7_groupSeats 2 = .ok (.iconst 0, 1) := by decide +kernel
theorem dX7_groupSeats_3 : decode cX7_groupSeats 3 = .ok (.istore_n 3, 1) := by decide +kernel
theorem dX7_groupSeats_4 : decode cX7_groupSeats 4 = .ok (.iload_n 3, 1) := by decide +kernel
theorem dX7_groupSeats_5 : decode cX7_groupSeats 5 = .ok (.aload_n 0, 1) := by decide +kernel
theorem dX7_groupSeats_6 : decode cX7_groupSeats 6 = .ok (.getfield 7, 3) := by decide +kernel
theorem dX7_groupSeats_9 : decode cX7_groupSeats 9 = .ok (.sipush 148, 3) := by decide +kernel
theorem dX7_groupSeats_12 : decode cX7_groupSeats 12 = .ok (.iaload, 1) := by decide +kernel
theorem dX7_groupSeats_13 : decode cX7_groupSeats 13 = .ok (.if_icmp .ge 37, 3) := by decide +kernel
theorem dX7_groupSeats_16 : decode cX7_groupSeats 16 = .ok (.iload_n 2, 1) := by decide +kernel
theorem dX7_groupSeats_17 : decode cX7_groupSeats 17 = .ok (.aload_n 0, 1) := by decide +kernel
theorem dX7_groupSeats_18 : decode cX7_groupSeats 18 = .ok (.getfield 22, 3) := by decide +kernel
theorem dX7_groupSeats_21 : decode cX7_groupSeats 21 = .ok (.iload_n 3, 1) := by decide +kernel
theorem dX7_groupSeats_22 : decode cX7_groupSeats 22 = .ok (.iaload, 1) := by decide +kernel
theorem dX7_groupSeats_23 : decode cX7_groupSeats 23 = .ok (.aload_n 0, 1) := by decide +kernel
theorem dX7_groupSeats_24 : decode cX7_groupSeats 24 = .ok (.getfield 22, 3) := by decide +kernel
theorem dX7_groupSeats_27 : decode cX7_groupSeats 27 = .ok (.iload_n 1, 1) := by decide +kernel
theorem dX7_groupSeats_28 : decode cX7_groupSeats 28 = .ok (.iaload, 1) := by decide +kernel
theorem dX7_groupSeats_29 : decode cX7_groupSeats 29 = .ok (.if_icmp .ne 12, 3) := by decide +kernel
theorem dX7_groupSeats_32 : decode cX7_groupSeats 32 = .ok (.aload_n 0, 1) := by decide +kernel
theorem dX7_groupSeats_33 : decode cX7_groupSeats 33 = .ok (.iload_n 3, 1) := by decide +kernel
theorem dX7_groupSeats_34 : decode cX7_groupSeats 34 = .ok (.iconst 0, 1) := by decide +kernel
theorem dX7_groupSeats_35 : decode cX7_groupSeats 35 = .ok (.invokevirtual 61, 3) := by decide +kernel
theorem dX7_groupSeats_38 : decode cX7_groupSeats 38 = .ok (.goto 4, 3) := by decide +kernel
theorem dX7_groupSeats_41 : decode cX7_groupSeats 41 = .ok (.iconst 0, 1) := by decide +kernel
theorem dX7_groupSeats_42 : decode cX7_groupSeats 42 = .ok (.iadd, 1) := by decide +kernel
theorem dX7_groupSeats_43 : decode cX7_groupSeats 43 = .ok (.istore_n 2, 1) := by decide +kernel
theorem dX7_groupSeats_44 : decode cX7_groupSeats 44 = .ok (.iinc 3 1, 3) := by decide +kernel
theorem dX7_groupSeats_47 : decode cX7_groupSeats 47 = .ok (.goto (-43), 3) := by decide +kernel
theorem dX7_groupSeats_50 : decode cX7_groupSeats 50 = .ok (.iload_n 2, 1) := by decide +kernel
theorem dX7_groupSeats_51 : decode cX7_groupSeats 51 = .ok (.ireturn, 1) := by decide +kernel
theorem dX7_puppetOf_0 : decode cX7_puppetOf 0 = .ok (.aload_n 0, 1) := by decide +kernel
theorem dX7_puppetOf_1 : decode cX7_puppetOf 1 = .ok (.iload_n 1, 1) := by decide +kernel
theorem dX7_puppetOf_2 : decode cX7_puppetOf 2 = .ok (.invokevirtual 49, 3) := by decide +kernel
theorem dX7_puppetOf_5 : decode cX7_puppetOf 5 = .ok (.ifCond .eq 13, 3) := by decide +kernel
theorem dX7_puppetOf_8 : decode cX7_puppetOf 8 = .ok (.iload_n 2, 1) := by decide +kernel
theorem dX7_puppetOf_9 : decode cX7_puppetOf 9 = .ok (.iconst 0, 1) := by decide +kernel
theorem dX7_puppetOf_10 : decode cX7_puppetOf 10 = .ok (.bipush 8, 2) := by decide +kernel
theorem dX7_puppetOf_12 : decode cX7_puppetOf 12 = .ok (.invokestatic 45, 3) := by decide +kernel
theorem dX7_puppetOf_15 : decode cX7_puppetOf 15 = .ok (.ifCond .ne 6, 3) := by decide +kernel
theorem dX7_puppetOf_18 : decode cX7_puppetOf 18 = .ok (.ldc 96, 2) := by decide +kernel
theorem dX7_puppetOf_20 : decode cX7_puppetOf 20 = .ok (.ireturn, 1) := by decide +kernel
theorem dX7_puppetOf_21 : decode cX7_puppetOf 21 = .ok (.aload_n 0, 1) := by decide +kernel
theorem dX7_puppetOf_22 : decode cX7_puppetOf 22 = .ok (.invokevirtual 79, 3) := by decide +kernel
theorem dX7_puppetOf_25 : decode cX7_puppetOf 25 = .ok (.ifCond .ge 6, 3) := by decide +kernel
theorem dX7_puppetOf_28 : decode cX7_puppetOf 28 = .ok (.ldc 60, 2) := by decide +kernel
theorem dX7_puppetOf_30 : decode cX7_puppetOf 30 = .ok (.ireturn, 1) := by decide +kernel
theorem dX7_puppetOf_31 : decode cX7_puppetOf 31 = .ok (.iload_n 2, 1) := by decide +kernel
theorem dX7_puppetOf_32 : decode cX7_puppetOf 32 = .ok (.tableswitch 106 2 8 #[44, 67, 74, 81, 88, 94, 100], 44) := by decide +kernel
theorem dX7_puppetOf_76 : decode cX7_puppetOf 76 = .ok (.aload_n 0, 1) := by decide +kernel
theorem dX7_puppetOf_77 : decode cX7_puppetOf 77 = .ok (.iload_n 1, 1) := by decide +kernel
theorem dX7_puppetOf_78 : decode cX7_puppetOf 78 = .ok (.iconst 2, 1) := by decide +kernel
theorem dX7_puppetOf_79 : decode cX7_puppetOf 79 = .ok (.invokevirtual 61, 3) := by decide +kernel
theorem dX7_puppetOf_82 : decode cX7_puppetOf 82 = .ok (.ifCond .le 14, 3) := by decide +kernel
theorem dX7_puppetOf_85 : decode cX7_puppetOf 85 = .ok (.aload_n 0, 1) := by decide +kernel
theorem dX7_puppetOf_86 : decode cX7_puppetOf 86 = .ok (.iload_n 1, 1) := by decide +kernel
theorem dX7_puppetOf_87 : decode cX7_puppetOf 87 = .ok (.iconst 2, 1) := by decide +kernel
theorem dX7_puppetOf_88 : decode cX7_puppetOf 88 = .ok (.invokevirtual 61, 3) := by decide +kernel
theorem dX7_puppetOf_91 : decode cX7_puppetOf 91 = .ok (.iconst 1, 1) := by decide +kernel
theorem dX7_puppetOf_92 : decode cX7_puppetOf 92 = .ok (.isub, 1) := by decide +kernel
theorem dX7_puppetOf_93 : decode cX7_puppetOf 93 = .ok (.goto 5, 3) := by decide +kernel
theorem dX7_puppetOf_96 : decode cX7_puppetOf 96 = .ok (.ldc 60, 2) := by decide +kernel
theorem dX7_puppetOf_98 : decode cX7_puppetOf 98 = .ok (.ireturn, 1) := by decide +kernel
theorem dX7_puppetOf_99 : decode cX7_puppetOf 99 = .ok (.aload_n 0, 1) := by decide +kernel
theorem dX7_puppetOf_100 : decode cX7_puppetOf 100 = .ok (.getfield 28, 3) := by decide +kernel
theorem dX7_puppetOf_103 : decode cX7_puppetOf 103 = .ok (.iload_n 1, 1) := by decide +kernel
theorem dX7_puppetOf_104 : decode cX7_puppetOf 104 = .ok (.iaload, 1) := by decide +kernel
theorem dX7_puppetOf_105 : decode cX7_puppetOf 105 = .ok (.ireturn, 1) := by decide +kernel
theorem dX7_puppetOf_106 : decode cX7_puppetOf 106 = .ok (.aload_n 0, 1) := by decide +kernel
theorem dX7_puppetOf_107 : decode cX7_puppetOf 107 = .ok (.getfield 22, 3) := by decide +kernel
theorem dX7_puppetOf_110 : decode cX7_puppetOf 110 = .ok (.iload_n 1, 1) := by decide +kernel
theorem dX7_puppetOf_111 : decode cX7_puppetOf 111 = .ok (.iaload, 1) := by decide +kernel
theorem dX7_puppetOf_112 : decode cX7_puppetOf 112 = .ok (.ireturn, 1) := by decide +kernel
theorem dX7_puppetOf_113 : decode cX7_puppetOf 113 = .ok (.aload_n 0, 1) := by decide +kernel
theorem dX7_puppetOf_114 : decode cX7_puppetOf 114 = .ok (.getfield 25, 3) := by decide +kernel
theorem dX7_puppetOf_117 : decode cX7_puppetOf 117 = .ok (.iload_n 1, 1) := by decide +kernel
theorem dX7_puppetOf_118 : decode cX7_puppetOf 118 = .ok (.iaload, 1) := by decide +kernel
theorem dX7_puppetOf_119 : decode cX7_puppetOf 119 = .ok (.ireturn, 1) := by decide +kernel
theorem dX7_puppetOf_120 : decode cX7_puppetOf 120 = .ok (.aload_n 0, 1) := by decide +kernel
theorem dX7_puppetOf_121 : decode cX7_puppetOf 121 = .ok (.iload_n 1, 1) := by decide +kernel
theorem dX7_puppetOf_122 : decode cX7_puppetOf 122 = .ok (.invokevirtual 121, 3) := by decide +kernel
theorem dX7_puppetOf_125 : decode cX7_puppetOf 125 = .ok (.ireturn, 1) := by decide +kernel
theorem dX7_puppetOf_126 : decode cX7_puppetOf 126 = .ok (.aload_n 0, 1) := by decide +kernel
theorem dX7_puppetOf_127 : decode cX7_puppetOf 127 = .ok (.iload_n 1, 1) := by decide +kernel
theorem dX7_puppetOf_128 : decode cX7_puppetOf 128 = .ok (.invokevirtual 124, 3) := by decide +kernel
theorem dX7_puppetOf_131 : decode cX7_puppetOf 131 = .ok (.ireturn, 1) := by decide +kernel
theorem dX7_puppetOf_132 : decode cX7_puppetOf 132 = .ok (.aload_n 0, 1) := by decide +kernel
theorem dX7_puppetOf_133 : decode cX7_puppetOf 133 = .ok (.iload_n 1, 1) := by decide +kernel
theorem dX7_puppetOf_134 : decode cX7_puppetOf 134 = .ok (.invokevirtual 127, 3) := by decide +kernel
theorem dX7_puppetOf_137 : decode cX7_puppetOf 137 = .ok (.ireturn, 1) := by decide +kernel
theorem dX7_puppetOf_138 : decode cX7_puppetOf 138 = .ok (.aload_n 0, 1) := by decide +kernel
theorem dX7_puppetOf_139 : decode cX7_puppetOf 139 = .ok (.iload_n 1, 1) := by decide +kernel
theorem dX7_puppetOf_140 : decode cX7_puppetOf 140 = .ok (.iload_n 2, 1) := by decide +kernel
theorem dX7_puppetOf_141 : decode cX7_puppetOf 141 = .ok (.invokevirtual 61, 3) := by decide +kernel
theorem dX7_puppetOf_144 : decode cX7_puppetOf 144 = .ok (.ireturn, 1) := by decide +kernel
theorem dX7_stringOf_0 : decode cX7_stringOf 0 = .ok (.aload_n 0, 1) := by decide +kernel
theorem dX7_stringOf_1 : decode cX7_stringOf 1 = .ok (.iload_n 1, 1) := by decide +kernel
theorem dX7_stringOf_2 : decode cX7_stringOf 2 = .ok (.invokevirtual 102, 3) := by decide +kernel
theorem dX7_stringOf_5 : decode cX7_stringOf 5 = .ok (.ifCond .eq 12, 3) := by decide +kernel
theorem dX7_stringOf_8 : decode cX7_stringOf 8 = .ok (.iload_n 2, 1) := by decide +kernel
theorem dX7_stringOf_9 : decode cX7_stringOf 9 = .ok (.iconst 0, 1) := by decide +kernel
theorem dX7_stringOf_10 : decode cX7_stringOf 10 = .ok (.iconst 4, 1) := by decide +kernel
theorem dX7_stringOf_11 : decode cX7_stringOf 11 = .ok (.invokestatic 45, 3) := by decide +kernel
theorem dX7_stringOf_14 : decode cX7_stringOf 14 = .ok (.ifCond .ne 6, 3) := by decide +kernel
theorem dX7_stringOf_17 : decode cX7_stringOf 17 = .ok (.ldc 96, 2) := by decide +kernel
theorem dX7_stringOf_19 : decode cX7_stringOf 19 = .ok (.ireturn, 1) := by decide +kernel
theorem dX7_stringOf_20 : decode cX7_stringOf 20 = .ok (.iload_n 2, 1) := by decide +kernel
theorem dX7_stringOf_21 : decode cX7_stringOf 21 = .ok (.iconst 4, 1) := by decide +kernel
theorem dX7_stringOf_22 : decode cX7_stringOf 22 = .ok (.if_icmp .ge 10, 3) := by decide +kernel
theorem dX7_stringOf_25 : decode cX7_stringOf 25 = .ok (.aload_n 0, 1) := by decide +kernel
theorem dX7_stringOf_26 : decode cX7_stringOf 26 = .ok (.iload_n 1, 1) := by decide +kernel
theorem dX7_stringOf_27 : decode cX7_stringOf 27 = .ok (.iload_n 2, 1) := by decide +kernel
theorem dX7_stringOf_28 : decode cX7_stringOf 28 = .ok (.invokevirtual 53, 3) := by decide +kernel
theorem dX7_stringOf_31 : decode cX7_stringOf 31 = .ok (.ireturn, 1) := by decide +kernel
theorem dX7_stringOf_32 : decode cX7_stringOf 32 = .ok (.aload_n 0, 1) := by decide +kernel
theorem dX7_stringOf_33 : decode cX7_stringOf 33 = .ok (.iload_n 1, 1) := by decide +kernel
theorem dX7_stringOf_34 : decode cX7_stringOf 34 = .ok (.invokevirtual 71, 3) := by decide +kernel
theorem dX7_stringOf_37 : decode cX7_stringOf 37 = .ok (.aload_n 0, 1) := by decide +kernel
theorem dX7_stringOf_38 : decode cX7_stringOf 38 = .ok (.getfield 22, 3) := by decide +kernel
theorem dX7_stringOf_41 : decode cX7_stringOf 41 = .ok (.aload_n 0, 1) := by decide +kernel
theorem dX7_stringOf_42 : decode cX7_stringOf 42 = .ok (.iload_n 1, 1) := by decide +kernel
theorem dX7_stringOf_43 : decode cX7_stringOf 43 = .ok (.iconst 0, 1) := by decide +kernel
theorem dX7_stringOf_44 : decode cX7_stringOf 44 = .ok (.invokevirtual 53, 3) := by decide +kernel
theorem dX7_stringOf_47 : decode cX7_stringOf 47 = .ok (.iaload, 1) := by decide +kernel
theorem dX7_stringOf_48 : decode cX7_stringOf 48 = .ok (.aload_n 0, 1) := by decide +kernel
theorem dX7_stringOf_49 : decode cX7_stringOf 49 = .ok (.getfield 22, 3) := by decide +kernel
theorem dX7_stringOf_52 : decode cX7_stringOf 52 = .ok (.aload_n 0, 1) := by decide +kernel
theorem dX7_stringOf_53 : decode cX7_stringOf 53 = .ok (.iload_n 1, 1) := by decide +kernel
theorem dX7_stringOf_54 : decode cX7_stringOf 54 = .ok (.iconst 1, 1) := by decide +kernel
theorem dX7_stringOf_55 : decode cX7_stringOf 55 = .ok (.invokevirtual 53, 3) := by decide +kernel
theorem dX7_stringOf_58 : decode cX7_stringOf 58 = .ok (.iaload, 1) := by decide +kernel
theorem dX7_stringOf_59 : decode cX7_stringOf 59 = .ok (.if_icmp .ne 7, 3) := by decide +kernel
theorem dX7_stringOf_62 : decode cX7_stringOf 62 = .ok (.iconst 1, 1) := by decide +kernel
theorem dX7_stringOf_63 : decode cX7_stringOf 63 = .ok (.goto 4, 3) := by decide +kernel
theorem dX7_stringOf_66 : decode cX7_stringOf 66 = .ok (.iconst 0, 1) := by decide +kernel
theorem dX7_stringOf_67 : decode cX7_stringOf 67 = .ok (.ireturn, 1) := by decide +kernel
theorem dX7_reached_0 : decode cX7_reached 0 = .ok (.iload_n 1, 1) := by decide +kernel
theorem dX7_reached_1 : decode cX7_reached 1 = .ok (.istore_n 2, 1) := by decide +kernel
theorem dX7_reached_2 : decode cX7_reached 2 = .ok (.iconst 0, 1) := by decide +kernel
theorem dX7_reached_3 : decode cX7_reached 3 = .ok (.istore_n 3, 1) := by decide +kernel
theorem dX7_reached_4 : decode cX7_reached 4 = .ok (.iload_n 3, 1) := by decide +kernel
theorem dX7_reached_5 : decode cX7_reached 5 = .ok (.aload_n 0, 1) := by decide +kernel
theorem dX7_reached_6 : decode cX7_reached 6 = .ok (.getfield 7, 3) := by decide +kernel
theorem dX7_reached_9 : decode cX7_reached 9 = .ok (.sipush 149, 3) := by decide +kernel
theorem dX7_reached_12 : decode cX7_reached 12 = .ok (.iaload, 1) := by decide +kernel
theorem dX7_reached_13 : decode cX7_reached 13 = .ok (.if_icmp .ge 44, 3) := by decide +kernel
theorem dX7_reached_16 : decode cX7_reached 16 = .ok (.iconst 1, 1) := by decide +kernel
theorem dX7_reached_17 : decode cX7_reached 17 = .ok (.aload_n 0, 1) := by decide +kernel
theorem dX7_reached_18 : decode cX7_reached 18 = .ok (.iload_n 3, 1) := by decide +kernel
theorem dX7_reached_19 : decode cX7_reached 19 = .ok (.iconst 0, 1) := by decide +kernel
theorem dX7_reached_20 : decode cX7_reached 20 = .ok (.invokevirtual 53, 3) := by decide +kernel
theorem dX7_reached_23 : decode cX7_reached 23 = .ok (.ishl, 1) := by decide +kernel
theorem dX7_reached_24 : decode cX7_reached 24 = .ok (.iconst 1, 1) := by decide +kernel
theorem dX7_reached_25 : decode cX7_reached 25 = .ok (.aload_n 0, 1) := by decide +kernel
theorem dX7_reached_26 : decode cX7_reached 26 = .ok (.iload_n 3, 1) := by decide +kernel
theorem dX7_reached_27 : decode cX7_reached 27 = .ok (.iconst 1, 1) := by decide +kernel
theorem dX7_reached_28 : decode cX7_reached 28 = .ok (.invokevirtual 53, 3) := by decide +kernel
theorem dX7_reached_31 : decode cX7_reached 31 = .ok (.ishl, 1) := by decide +kernel
theorem dX7_reached_32 : decode cX7_reached 32 = .ok (.ior, 1) := by decide +kernel
theorem dX7_reached_33 : decode cX7_reached 33 = .ok (.istore 4, 2) := by decide +kernel
theorem dX7_reached_35 : decode cX7_reached 35 = .ok (.iload_n 2, 1) := by decide +kernel
theorem dX7_reached_36 : decode cX7_reached 36 = .ok (.iload_n 1, 1) := by decide +kernel
theorem dX7_reached_37 : decode cX7_reached 37 = .ok (.iload 4, 2) := by decide +kernel
theorem dX7_reached_39 : decode cX7_reached 39 = .ok (.iand, 1) := by decide +kernel
theorem dX7_reached_40 : decode cX7_reached 40 = .ok (.ifCond .eq 8, 3) := by decide +kernel
theorem dX7_reached_43 : decode cX7_reached 43 = .ok (.iload 4, 2) := by decide +kernel
theorem dX7_reached_45 : decode cX7_reached 45 = .ok (.goto 4, 3) := by decide +kernel
theorem dX7_reached_48 : decode cX7_reached 48 = .ok (.iconst 0, 1) := by decide +kernel
theorem dX7_reached_49 : decode cX7_reached 49 = .ok (.ior, 1) := by decide +kernel
theorem dX7_reached_50 : decode cX7_reached 50 = .ok (.istore_n 2, 1) := by decide +kernel
theorem dX7_reached_51 : decode cX7_reached 51 = .ok (.iinc 3 1, 3) := by decide +kernel
theorem dX7_reached_54 : decode cX7_reached 54 = .ok (.goto (-50), 3) := by decide +kernel
theorem dX7_reached_57 : decode cX7_reached 57 = .ok (.iload_n 2, 1) := by decide +kernel
theorem dX7_reached_58 : decode cX7_reached 58 = .ok (.ireturn, 1) := by decide +kernel
theorem dX7_between_0 : decode cX7_between 0 = .ok (.aload_n 0, 1) := by decide +kernel
theorem dX7_between_1 : decode cX7_between 1 = .ok (.iload_n 1, 1) := by decide +kernel
theorem dX7_between_2 : decode cX7_between 2 = .ok (.invokevirtual 49, 3) := by decide +kernel
theorem dX7_between_5 : decode cX7_between 5 = .ok (.ifCond .eq 11, 3) := by decide +kernel
theorem dX7_between_8 : decode cX7_between 8 = .ok (.aload_n 0, 1) := by decide +kernel
theorem dX7_between_9 : decode cX7_between 9 = .ok (.iload_n 2, 1) := by decide +kernel
theorem dX7_between_10 : decode cX7_between 10 = .ok (.invokevirtual 49, 3) := by decide +kernel
theorem dX7_between_13 : decode cX7_between 13 = .ok (.ifCond .ne 6, 3) := by decide +kernel
theorem dX7_between_16 : decode cX7_between 16 = .ok (.ldc 96, 2) := by decide +kernel
theorem dX7_between_18 : decode cX7_between 18 = .ok (.ireturn, 1) := by decide +kernel
theorem dX7_between_19 : decode cX7_between 19 = .ok (.iconst 1, 1) := by decide +kernel
theorem dX7_between_20 : decode cX7_between 20 = .ok (.iload_n 1, 1) := by decide +kernel
theorem dX7_between_21 : decode cX7_between 21 = .ok (.ishl, 1) := by decide +kernel
theorem dX7_between_22 : decode cX7_between 22 = .ok (.istore_n 3, 1) := by decide +kernel
theorem dX7_between_23 : decode cX7_between 23 = .ok (.iconst 0, 1) := by decide +kernel
theorem dX7_between_24 : decode cX7_between 24 = .ok (.istore 4, 2) := by decide +kernel
theorem dX7_between_26 : decode cX7_between 26 = .ok (.iload_n 3, 1) := by decide +kernel
theorem dX7_between_27 : decode cX7_between 27 = .ok (.iload_n 2, 1) := by decide +kernel
theorem dX7_between_28 : decode cX7_between 28 = .ok (.ishr, 1) := by decide +kernel
theorem dX7_between_29 : decode cX7_between 29 = .ok (.iconst 1, 1) := by decide +kernel
theorem dX7_between_30 : decode cX7_between 30 = .ok (.iand, 1) := by decide +kernel
theorem dX7_between_31 : decode cX7_between 31 = .ok (.ifCond .ne 28, 3) := by decide +kernel
theorem dX7_between_34 : decode cX7_between 34 = .ok (.aload_n 0, 1) := by decide +kernel
theorem dX7_between_35 : decode cX7_between 35 = .ok (.iload_n 3, 1) := by decide +kernel
theorem dX7_between_36 : decode cX7_between 36 = .ok (.invokevirtual 130, 3) := by decide +kernel
theorem dX7_between_39 : decode cX7_between 39 = .ok (.istore 5, 2) := by decide +kernel
theorem dX7_between_41 : decode cX7_between 41 = .ok (.iload 5, 2) := by decide +kernel
theorem dX7_between_43 : decode cX7_between 43 = .ok (.iload_n 3, 1) := by decide +kernel
theorem dX7_between_44 : decode cX7_between 44 = .ok (.if_icmp .ne 6, 3) := by decide +kernel
theorem dX7_between_47 : decode cX7_between 47 = .ok (.ldc 60, 2) := by decide +kernel
theorem dX7_between_49 : decode cX7_between 49 = .ok (.ireturn, 1) := by decide +kernel
theorem dX7_between_50 : decode cX7_between 50 = .ok (.iload 5, 2) := by decide +kernel
theorem dX7_between_52 : decode cX7_between 52 = .ok (.istore_n 3, 1) := by decide +kernel
theorem dX7_between_53 : decode cX7_between 53 = .ok (.iinc 4 1, 3) := by decide +kernel
theorem dX7_between_56 : decode cX7_between 56 = .ok (.goto (-30), 3) := by decide +kernel
theorem dX7_between_59 : decode cX7_between 59 = .ok (.iload 4, 2) := by decide +kernel
theorem dX7_between_61 : decode cX7_between 61 = .ok (.ireturn, 1) := by decide +kernel
theorem dX7_book_0 : decode cX7_book 0 = .ok (.iload_n 1, 1) := by decide +kernel
theorem dX7_book_1 : decode cX7_book 1 = .ok (.ifCond .lt 12, 3) := by decide +kernel
theorem dX7_book_4 : decode cX7_book 4 = .ok (.iload_n 2, 1) := by decide +kernel
theorem dX7_book_5 : decode cX7_book 5 = .ok (.iconst 0, 1) := by decide +kernel
theorem dX7_book_6 : decode cX7_book 6 = .ok (.iconst 3, 1) := by decide +kernel
theorem dX7_book_7 : decode cX7_book 7 = .ok (.invokestatic 45, 3) := by decide +kernel
theorem dX7_book_10 : decode cX7_book 10 = .ok (.ifCond .ne 6, 3) := by decide +kernel
theorem dX7_book_13 : decode cX7_book 13 = .ok (.ldc 96, 2) := by decide +kernel
theorem dX7_book_15 : decode cX7_book 15 = .ok (.ireturn, 1) := by decide +kernel
theorem dX7_book_16 : decode cX7_book 16 = .ok (.iload_n 1, 1) := by decide +kernel
theorem dX7_book_17 : decode cX7_book 17 = .ok (.aload_n 0, 1) := by decide +kernel
theorem dX7_book_18 : decode cX7_book 18 = .ok (.getfield 7, 3) := by decide +kernel
theorem dX7_book_21 : decode cX7_book 21 = .ok (.sipush 153, 3) := by decide +kernel
theorem dX7_book_24 : decode cX7_book 24 = .ok (.iaload, 1) := by decide +kernel
theorem dX7_book_25 : decode cX7_book 25 = .ok (.if_icmp .ge 19, 3) := by decide +kernel
theorem dX7_book_28 : decode cX7_book 28 = .ok (.aload_n 0, 1) := by decide +kernel
theorem dX7_book_29 : decode cX7_book 29 = .ok (.getfield 7, 3) := by decide +kernel
theorem dX7_book_32 : decode cX7_book 32 = .ok (.bipush 116, 2) := by decide +kernel
theorem dX7_book_34 : decode cX7_book 34 = .ok (.iconst 4, 1) := by decide +kernel
theorem dX7_book_35 : decode cX7_book 35 = .ok (.iload_n 1, 1) := by decide +kernel
theorem dX7_book_36 : decode cX7_book 36 = .ok (.imul, 1) := by decide +kernel
theorem dX7_book_37 : decode cX7_book 37 = .ok (.iadd, 1) := by decide +kernel
theorem dX7_book_38 : decode cX7_book 38 = .ok (.iload_n 2, 1) := by decide +kernel
theorem dX7_book_39 : decode cX7_book 39 = .ok (.iadd, 1) := by decide +kernel
theorem dX7_book_40 : decode cX7_book 40 = .ok (.iaload, 1) := by decide +kernel
theorem dX7_book_41 : decode cX7_book 41 = .ok (.goto 5, 3) := by decide +kernel
theorem dX7_book_44 : decode cX7_book 44 = .ok (.ldc 60, 2) := by decide +kernel
theorem dX7_book_46 : decode cX7_book 46 = .ok (.ireturn, 1) := by decide +kernel
theorem dX7_yesWith_0 : decode cX7_yesWith 0 = .ok (.aload_n 0, 1) := by decide +kernel
theorem dX7_yesWith_1 : decode cX7_yesWith 1 = .ok (.iload_n 1, 1) := by decide +kernel
theorem dX7_yesWith_2 : decode cX7_yesWith 2 = .ok (.iconst 2, 1) := by decide +kernel
theorem dX7_yesWith_3 : decode cX7_yesWith 3 = .ok (.invokevirtual 61, 3) := by decide +kernel
theorem dX7_yesWith_6 : decode cX7_yesWith 6 = .ok (.istore_n 3, 1) := by decide +kernel
theorem dX7_yesWith_7 : decode cX7_yesWith 7 = .ok (.aload_n 0, 1) := by decide +kernel
theorem dX7_yesWith_8 : decode cX7_yesWith 8 = .ok (.getfield 7, 3) := by decide +kernel
theorem dX7_yesWith_11 : decode cX7_yesWith 11 = .ok (.iconst 3, 1) := by decide +kernel
theorem dX7_yesWith_12 : decode cX7_yesWith 12 = .ok (.iload_n 1, 1) := by decide +kernel
theorem dX7_yesWith_13 : decode cX7_yesWith 13 = .ok (.imul, 1) := by decide +kernel
theorem dX7_yesWith_14 : decode cX7_yesWith 14 = .ok (.iconst 2, 1) := by decide +kernel
theorem dX7_yesWith_15 : decode cX7_yesWith 15 = .ok (.iadd, 1) := by decide +kernel
theorem dX7_yesWith_16 : decode cX7_yesWith 16 = .ok (.iload_n 2, 1) := by decide +kernel
theorem dX7_yesWith_17 : decode cX7_yesWith 17 = .ok (.iconst 1, 1) := by decide +kernel
theorem dX7_yesWith_18 : decode cX7_yesWith 18 = .ok (.iadd, 1) := by decide +kernel
theorem dX7_yesWith_19 : decode cX7_yesWith 19 = .ok (.iastore, 1) := by decide +kernel
theorem dX7_yesWith_20 : decode cX7_yesWith 20 = .ok (.aload_n 0, 1) := by decide +kernel
theorem dX7_yesWith_21 : decode cX7_yesWith 21 = .ok (.invokevirtual 79, 3) := by decide +kernel
theorem dX7_yesWith_24 : decode cX7_yesWith 24 = .ok (.istore 4, 2) := by decide +kernel
theorem dX7_yesWith_26 : decode cX7_yesWith 26 = .ok (.aload_n 0, 1) := by decide +kernel
theorem dX7_yesWith_27 : decode cX7_yesWith 27 = .ok (.getfield 7, 3) := by decide +kernel
theorem dX7_yesWith_30 : decode cX7_yesWith 30 = .ok (.iconst 3, 1) := by decide +kernel
theorem dX7_yesWith_31 : decode cX7_yesWith 31 = .ok (.iload_n 1, 1) := by decide +kernel
theorem dX7_yesWith_32 : decode cX7_yesWith 32 = .ok (.imul, 1) := by decide +kernel
theorem dX7_yesWith_33 : decode cX7_yesWith 33 = .ok (.iconst 2, 1) := by decide +kernel
theorem dX7_yesWith_34 : decode cX7_yesWith 34 = .ok (.iadd, 1) := by decide +kernel
theorem dX7_yesWith_35 : decode cX7_yesWith 35 = .ok (.iload_n 3, 1) := by decide +kernel
theorem dX7_yesWith_36 : decode cX7_yesWith 36 = .ok (.iastore, 1) := by decide +kernel
theorem dX7_yesWith_37 : decode cX7_yesWith 37 = .ok (.iload 4, 2) := by decide +kernel
theorem dX7_yesWith_39 : decode cX7_yesWith 39 = .ok (.ireturn, 1) := by decide +kernel
theorem dX7_bestPull_0 : decode cX7_bestPull 0 = .ok (.iload_n 1, 1) := by decide +kernel
theorem dX7_bestPull_1 : decode cX7_bestPull 1 = .ok (.iconst 0, 1) := by decide +kernel
theorem dX7_bestPull_2 : decode cX7_bestPull 2 = .ok (.iconst 1, 1) := by decide +kernel
theorem dX7_bestPull_3 : decode cX7_bestPull 3 = .ok (.invokestatic 45, 3) := by decide +kernel
theorem dX7_bestPull_6 : decode cX7_bestPull 6 = .ok (.ifCond .ne 6, 3) := by decide +kernel
theorem dX7_bestPull_9 : decode cX7_bestPull 9 = .ok (.ldc 96, 2) := by decide +kernel
theorem dX7_bestPull_11 : decode cX7_bestPull 11 = .ok (.ireturn, 1) := by decide +kernel
theorem dX7_bestPull_12 : decode cX7_bestPull 12 = .ok (.ldc 60, 2) := by decide +kernel
theorem dX7_bestPull_14 : decode cX7_bestPull 14 = .ok (.istore_n 2, 1) := by decide +kernel
theorem dX7_bestPull_15 : decode cX7_bestPull 15 = .ok (.aload_n 0, 1) := by decide +kernel
theorem dX7_bestPull_16 : decode cX7_bestPull 16 = .ok (.invokevirtual 79, 3) := by decide +kernel
theorem dX7_bestPull_19 : decode cX7_bestPull 19 = .ok (.istore_n 3, 1) := by decide +kernel
theorem dX7_bestPull_20 : decode cX7_bestPull 20 = .ok (.iconst 0, 1) := by decide +kernel
theorem dX7_bestPull_21 : decode cX7_bestPull 21 = .ok (.istore 4, 2) := by decide +kernel
theorem dX7_bestPull_23 : decode cX7_bestPull 23 = .ok (.iload 4, 2) := by decide +kernel
theorem dX7_bestPull_25 : decode cX7_bestPull 25 = .ok (.iconst 2, 1) := by decide +kernel
theorem dX7_bestPull_26 : decode cX7_bestPull 26 = .ok (.aload_n 0, 1) := by decide +kernel
theorem dX7_bestPull_27 : decode cX7_bestPull 27 = .ok (.getfield 7, 3) := by decide +kernel
theorem dX7_bestPull_30 : decode cX7_bestPull 30 = .ok (.sipush 148, 3) := by decide +kernel
theorem dX7_bestPull_33 : decode cX7_bestPull 33 = .ok (.iaload, 1) := by decide +kernel
theorem dX7_bestPull_34 : decode cX7_bestPull 34 = .ok (.imul, 1) := by decide +kernel
theorem dX7_bestPull_35 : decode cX7_bestPull 35 = .ok (.if_icmp .ge 70, 3) := by decide +kernel
theorem dX7_bestPull_38 : decode cX7_bestPull 38 = .ok (.aload_n 0, 1) := by decide +kernel
theorem dX7_bestPull_39 : decode cX7_bestPull 39 = .ok (.iload 4, 2) := by decide +kernel
theorem dX7_bestPull_41 : decode cX7_bestPull 41 = .ok (.iconst 2, 1) := by decide +kernel
theorem dX7_bestPull_42 : decode cX7_bestPull 42 = .ok (.idiv, 1) := by decide +kernel
theorem dX7_bestPull_43 : decode cX7_bestPull 43 = .ok (.iload 4, 2) := by decide +kernel
theorem dX7_bestPull_45 : decode cX7_bestPull 45 = .ok (.iconst 2, 1) := by decide +kernel
theorem dX7_bestPull_46 : decode cX7_bestPull 46 = .ok (.irem, 1) := by decide +kernel
theorem dX7_bestPull_47 : decode cX7_bestPull 47 = .ok (.invokevirtual 114, 3) := by decide +kernel
theorem dX7_bestPull_50 : decode cX7_bestPull 50 = .ok (.ifCond .ne 18, 3) := by decide +kernel
theorem dX7_bestPull_53 : decode cX7_bestPull 53 = .ok (.aload_n 0, 1) := by decide +kernel
theorem dX7_bestPull_54 : decode cX7_bestPull 54 = .ok (.iload 4, 2) := by decide +kernel
theorem dX7_bestPull_56 : decode cX7_bestPull 56 = .ok (.iconst 2, 1) := by decide +kernel
theorem dX7_bestPull_57 : decode cX7_bestPull 57 = .ok (.idiv, 1) := by decide +kernel
theorem dX7_bestPull_58 : decode cX7_bestPull 58 = .ok (.iload 4, 2) := by decide +kernel
theorem dX7_bestPull_60 : decode cX7_bestPull 60 = .ok (.iconst 2, 1) := by decide +kernel
theorem dX7_bestPull_61 : decode cX7_bestPull 61 = .ok (.irem, 1) := by decide +kernel
theorem dX7_bestPull_62 : decode cX7_bestPull 62 = .ok (.invokevirtual 133, 3) := by decide +kernel
theorem dX7_bestPull_65 : decode cX7_bestPull 65 = .ok (.goto 4, 3) := by decide +kernel
theorem dX7_bestPull_68 : decode cX7_bestPull 68 = .ok (.iconst (-1), 1) := by decide +kernel
theorem dX7_bestPull_69 : decode cX7_bestPull 69 = .ok (.istore 5, 2) := by decide +kernel
theorem dX7_bestPull_71 : decode cX7_bestPull 71 = .ok (.iload 5, 2) := by decide +kernel
theorem dX7_bestPull_73 : decode cX7_bestPull 73 = .ok (.iload_n 3, 1) := by decide +kernel
theorem dX7_bestPull_74 : decode cX7_bestPull 74 = .ok (.if_icmp .le 10, 3) := by decide +kernel
theorem dX7_bestPull_77 : decode cX7_bestPull 77 = .ok (.iload 4, 2) := by decide +kernel
theorem dX7_bestPull_79 : decode cX7_bestPull 79 = .ok (.iconst 2, 1) := by decide +kernel
theorem dX7_bestPull_80 : decode cX7_bestPull 80 = .ok (.idiv, 1) := by decide +kernel
theorem dX7_bestPull_81 : decode cX7_bestPull 81 = .ok (.goto 4, 3) := by decide +kernel
theorem dX7_bestPull_84 : decode cX7_bestPull 84 = .ok (.iload_n 2, 1) := by decide +kernel
theorem dX7_bestPull_85 : decode cX7_bestPull 85 = .ok (.istore_n 2, 1) := by decide +kernel
theorem dX7_bestPull_86 : decode cX7_bestPull 86 = .ok (.iload 5, 2) := by decide +kernel
theorem dX7_bestPull_88 : decode cX7_bestPull 88 = .ok (.iload_n 3, 1) := by decide +kernel
theorem dX7_bestPull_89 : decode cX7_bestPull 89 = .ok (.if_icmp .le 8, 3) := by decide +kernel
theorem dX7_bestPull_92 : decode cX7_bestPull 92 = .ok (.iload 5, 2) := by decide +kernel
theorem dX7_bestPull_94 : decode cX7_bestPull 94 = .ok (.goto 4, 3) := by decide +kernel
theorem dX7_bestPull_97 : decode cX7_bestPull 97 = .ok (.iload_n 3, 1) := by decide +kernel
theorem dX7_bestPull_98 : decode cX7_bestPull 98 = .ok (.istore_n 3, 1) := by decide +kernel
theorem dX7_bestPull_99 : decode cX7_bestPull 99 = .ok (.iinc 4 1, 3) := by decide +kernel
theorem dX7_bestPull_102 : decode cX7_bestPull 102 = .ok (.goto (-79), 3) := by decide +kernel
theorem dX7_bestPull_105 : decode cX7_bestPull 105 = .ok (.iload_n 2, 1) := by decide +kernel
theorem dX7_bestPull_106 : decode cX7_bestPull 106 = .ok (.ifCond .ge 8, 3) := by decide +kernel
theorem dX7_bestPull_109 : decode cX7_bestPull 109 = .ok (.ldc 60, 2) := by decide +kernel
theorem dX7_bestPull_111 : decode cX7_bestPull 111 = .ok (.goto 12, 3) := by decide +kernel
theorem dX7_bestPull_114 : decode cX7_bestPull 114 = .ok (.iload_n 1, 1) := by decide +kernel
theorem dX7_bestPull_115 : decode cX7_bestPull 115 = .ok (.ifCond .ne 7, 3) := by decide +kernel
theorem dX7_bestPull_118 : decode cX7_bestPull 118 = .ok (.iload_n 2, 1) := by decide +kernel
theorem dX7_bestPull_119 : decode cX7_bestPull 119 = .ok (.goto 4, 3) := by decide +kernel
theorem dX7_bestPull_122 : decode cX7_bestPull 122 = .ok (.iload_n 3, 1) := by decide +kernel
theorem dX7_bestPull_123 : decode cX7_bestPull 123 = .ok (.ireturn, 1) := by decide +kernel
theorem dX7_gains_0 : decode cX7_gains 0 = .ok (.iconst 0, 1) := by decide +kernel
theorem dX7_gains_1 : decode cX7_gains 1 = .ok (.istore_n 1, 1) := by decide +kernel
theorem dX7_gains_2 : decode cX7_gains 2 = .ok (.iconst 0, 1) := by decide +kernel
theorem dX7_gains_3 : decode cX7_gains 3 = .ok (.istore_n 2, 1) := by decide +kernel
theorem dX7_gains_4 : decode cX7_gains 4 = .ok (.iload_n 2, 1) := by decide +kernel
theorem dX7_gains_5 : decode cX7_gains 5 = .ok (.aload_n 0, 1) := by decide +kernel
theorem dX7_gains_6 : decode cX7_gains 6 = .ok (.getfield 7, 3) := by decide +kernel
theorem dX7_gains_9 : decode cX7_gains 9 = .ok (.sipush 148, 3) := by decide +kernel
theorem dX7_gains_12 : decode cX7_gains 12 = .ok (.iaload, 1) := by decide +kernel
theorem dX7_gains_13 : decode cX7_gains 13 = .ok (.if_icmp .ge 98, 3) := by decide +kernel
theorem dX7_gains_16 : decode cX7_gains 16 = .ok (.aload_n 0, 1) := by decide +kernel
theorem dX7_gains_17 : decode cX7_gains 17 = .ok (.getfield 22, 3) := by decide +kernel
theorem dX7_gains_20 : decode cX7_gains 20 = .ok (.iload_n 2, 1) := by decide +kernel
theorem dX7_gains_21 : decode cX7_gains 21 = .ok (.iaload, 1) := by decide +kernel
theorem dX7_gains_22 : decode cX7_gains 22 = .ok (.iload_n 2, 1) := by decide +kernel
theorem dX7_gains_23 : decode cX7_gains 23 = .ok (.if_icmp .ne 82, 3) := by decide +kernel
theorem dX7_gains_26 : decode cX7_gains 26 = .ok (.aload_n 0, 1) := by decide +kernel
theorem dX7_gains_27 : decode cX7_gains 27 = .ok (.getfield 31, 3) := by decide +kernel
theorem dX7_gains_30 : decode cX7_gains 30 = .ok (.iload_n 1, 1) := by decide +kernel
theorem dX7_gains_31 : decode cX7_gains 31 = .ok (.iconst 0, 1) := by decide +kernel
theorem dX7_gains_32 : decode cX7_gains 32 = .ok (.iastore, 1) := by decide +kernel
theorem dX7_gains_33 : decode cX7_gains 33 = .ok (.iload_n 2, 1) := by decide +kernel
theorem dX7_gains_34 : decode cX7_gains 34 = .ok (.istore_n 3, 1) := by decide +kernel
theorem dX7_gains_35 : decode cX7_gains 35 = .ok (.iload_n 3, 1) := by decide +kernel
theorem dX7_gains_36 : decode cX7_gains 36 = .ok (.aload_n 0, 1) := by decide +kernel
theorem dX7_gains_37 : decode cX7_gains 37 = .ok (.getfield 7, 3) := by decide +kernel
theorem dX7_gains_40 : decode cX7_gains 40 = .ok (.sipush 148, 3) := by decide +kernel
theorem dX7_gains_43 : decode cX7_gains 43 = .ok (.iaload, 1) := by decide +kernel
theorem dX7_gains_44 : decode cX7_gains 44 = .ok (.if_icmp .ge 58, 3) := by decide +kernel
theorem dX7_gains_47 : decode cX7_gains 47 = .ok (.aload_n 0, 1) := by decide +kernel
theorem dX7_gains_48 : decode cX7_gains 48 = .ok (.getfield 22, 3) := by decide +kernel
theorem dX7_gains_51 : decode cX7_gains 51 = .ok (.iload_n 3, 1) := by decide +kernel
theorem dX7_gains_52 : decode cX7_gains 52 = .ok (.iaload, 1) := by decide +kernel
theorem dX7_gains_53 : decode cX7_gains 53 = .ok (.iload_n 2, 1) := by decide +kernel
theorem dX7_gains_54 : decode cX7_gains 54 = .ok (.if_icmp .ne 12, 3) := by decide +kernel
theorem dX7_gains_57 : decode cX7_gains 57 = .ok (.aload_n 0, 1) := by decide +kernel
theorem dX7_gains_58 : decode cX7_gains 58 = .ok (.iload_n 3, 1) := by decide +kernel
theorem dX7_gains_59 : decode cX7_gains 59 = .ok (.iconst 0, 1) := by decide +kernel
theorem dX7_gains_60 : decode cX7_gains 60 = .ok (.invokevirtual 61, 3) := by decide +kernel
theorem dX7_gains_63 : decode cX7_gains 63 = .ok (.goto 4, 3) := by decide +kernel
theorem dX7_gains_66 : decode cX7_gains 66 = .ok (.iconst 0, 1) := by decide +kernel
theorem dX7_gains_67 : decode cX7_gains 67 = .ok (.istore 4, 2) := by decide +kernel
theorem dX7_gains_69 : decode cX7_gains 69 = .ok (.aload_n 0, 1) := by decide +kernel
theorem dX7_gains_70 : decode cX7_gains 70 = .ok (.getfield 31, 3) := by decide +kernel
theorem dX7_gains_73 : decode cX7_gains 73 = .ok (.iload_n 1, 1) := by decide +kernel
theorem dX7_gains_74 : decode cX7_gains 74 = .ok (.dup2, 1) := by decide +kernel
theorem dX7_gains_75 : decode cX7_gains 75 = .ok (.iaload, 1) := by decide +kernel
theorem dX7_gains_76 : decode cX7_gains 76 = .ok (.aload_n 0, 1) := by decide +kernel
theorem dX7_gains_77 : decode cX7_gains 77 = .ok (.getfield 28, 3) := by decide +kernel
theorem dX7_gains_80 : decode cX7_gains 80 = .ok (.iload_n 3, 1) := by decide +kernel
theorem dX7_gains_81 : decode cX7_gains 81 = .ok (.iaload, 1) := by decide +kernel
theorem dX7_gains_82 : decode cX7_gains 82 = .ok (.iconst 1, 1) := by decide +kernel
theorem dX7_gains_83 : decode cX7_gains 83 = .ok (.if_icmp .ne 9, 3) := by decide +kernel
theorem dX7_gains_86 : decode cX7_gains 86 = .ok (.iload 4, 2) := by decide +kernel
theorem dX7_gains_88 : decode cX7_gains 88 = .ok (.ineg, 1) := by decide +kernel
theorem dX7_gains_89 : decode cX7_gains 89 = .ok (.goto 5, 3) := by decide +kernel
theorem dX7_gains_92 : decode cX7_gains 92 = .ok (.iload 4, 2) := by decide +kernel
theorem dX7_gains_94 : decode cX7_gains 94 = .ok (.iadd, 1) := by decide +kernel
theorem dX7_gains_95 : decode cX7_gains 95 = .ok (.iastore, 1) := by decide +kernel
theorem dX7_gains_96 : decode cX7_gains 96 = .ok (.iinc 3 1, 3) := by decide +kernel
theorem dX7_gains_99 : decode cX7_gains 99 = .ok (.goto (-64), 3) := by decide +kernel
theorem dX7_gains_102 : decode cX7_gains 102 = .ok (.iinc 1 1, 3) := by decide +kernel
theorem dX7_gains_105 : decode cX7_gains 105 = .ok (.iinc 2 1, 3) := by decide +kernel
theorem dX7_gains_108 : decode cX7_gains 108 = .ok (.goto (-104), 3) := by decide +kernel
theorem dX7_gains_111 : decode cX7_gains 111 = .ok (.iload_n 1, 1) := by decide +kernel
theorem dX7_gains_112 : decode cX7_gains 112 = .ok (.ireturn, 1) := by decide +kernel
theorem dX7_greedy_0 : decode cX7_greedy 0 = .ok (.iconst 0, 1) := by decide +kernel
theorem dX7_greedy_1 : decode cX7_greedy 1 = .ok (.istore_n 3, 1) := by decide +kernel
theorem dX7_greedy_2 : decode cX7_greedy 2 = .ok (.iconst 0, 1) := by decide +kernel
theorem dX7_greedy_3 : decode cX7_greedy 3 = .ok (.istore 4, 2) := by decide +kernel
theorem dX7_greedy_5 : decode cX7_greedy 5 = .ok (.iconst 1, 1) := by decide +kernel
theorem dX7_greedy_6 : decode cX7_greedy 6 = .ok (.iload_n 2, 1) := by decide +kernel
theorem dX7_greedy_7 : decode cX7_greedy 7 = .ok (.ishl, 1) := by decide +kernel
theorem dX7_greedy_8 : decode cX7_greedy 8 = .ok (.iconst 1, 1) := by decide +kernel
theorem dX7_greedy_9 : decode cX7_greedy 9 = .ok (.isub, 1) := by decide +kernel
theorem dX7_greedy_10 : decode cX7_greedy 10 = .ok (.istore 5, 2) := by decide +kernel
theorem dX7_greedy_12 : decode cX7_greedy 12 = .ok (.iload_n 3, 1) := by decide +kernel
theorem dX7_greedy_13 : decode cX7_greedy 13 = .ok (.iload_n 1, 1) := by decide +kernel
theorem dX7_greedy_14 : decode cX7_greedy 14 = .ok (.if_icmp .ge 107, 3) := by decide +kernel
theorem dX7_greedy_17 : decode cX7_greedy 17 = .ok (.ldc 60, 2) := by decide +kernel
theorem dX7_greedy_19 : decode cX7_greedy 19 = .ok (.istore 6, 2) := by decide +kernel
theorem dX7_greedy_21 : decode cX7_greedy 21 = .ok (.iconst 0, 1) := by decide +kernel
theorem dX7_greedy_22 : decode cX7_greedy 22 = .ok (.istore 7, 2) := by decide +kernel
theorem dX7_greedy_24 : decode cX7_greedy 24 = .ok (.iload 7, 2) := by decide +kernel
theorem dX7_greedy_26 : decode cX7_greedy 26 = .ok (.iload_n 2, 1) := by decide +kernel
theorem dX7_greedy_27 : decode cX7_greedy 27 = .ok (.if_icmp .ge 61, 3) := by decide +kernel
theorem dX7_greedy_30 : decode cX7_greedy 30 = .ok (.iload 5, 2) := by decide +kernel
theorem dX7_greedy_32 : decode cX7_greedy 32 = .ok (.iload 7, 2) := by decide +kernel
theorem dX7_greedy_34 : decode cX7_greedy 34 = .ok (.ishr, 1) := by decide +kernel
theorem dX7_greedy_35 : decode cX7_greedy 35 = .ok (.iconst 1, 1) := by decide +kernel
theorem dX7_greedy_36 : decode cX7_greedy 36 = .ok (.iand, 1) := by decide +kernel
theorem dX7_greedy_37 : decode cX7_greedy 37 = .ok (.iconst 1, 1) := by decide +kernel
theorem dX7_greedy_38 : decode cX7_greedy 38 = .ok (.if_icmp .ne 40, 3) := by decide +kernel
theorem dX7_greedy_41 : decode cX7_greedy 41 = .ok (.aload_n 0, 1) := by decide +kernel
theorem dX7_greedy_42 : decode cX7_greedy 42 = .ok (.getfield 31, 3) := by decide +kernel
theorem dX7_greedy_45 : decode cX7_greedy 45 = .ok (.iload 7, 2) := by decide +kernel
theorem dX7_greedy_47 : decode cX7_greedy 47 = .ok (.iaload, 1) := by decide +kernel
theorem dX7_greedy_48 : decode cX7_greedy 48 = .ok (.ifCond .le 30, 3) := by decide +kernel
theorem dX7_greedy_51 : decode cX7_greedy 51 = .ok (.iload 6, 2) := by decide +kernel
theorem dX7_greedy_53 : decode cX7_greedy 53 = .ok (.ifCond .lt 20, 3) := by decide +kernel
theorem dX7_greedy_56 : decode cX7_greedy 56 = .ok (.aload_n 0, 1) := by decide +kernel
theorem dX7_greedy_57 : decode cX7_greedy 57 = .ok (.getfield 31, 3) := by decide +kernel
theorem dX7_greedy_60 : decode cX7_greedy 60 = .ok (.iload 7, 2) := by decide +kernel
theorem dX7_greedy_62 : decode cX7_greedy 62 = .ok (.iaload, 1) := by decide +kernel
theorem dX7_greedy_63 : decode cX7_greedy 63 = .ok (.aload_n 0, 1) := by decide +kernel
theorem dX7_greedy_64 : decode cX7_greedy 64 = .ok (.getfield 31, 3) := by decide +kernel
theorem dX7_greedy_67 : decode cX7_greedy 67 = .ok (.iload 6, 2) := by decide +kernel
theorem dX7_greedy_69 : decode cX7_greedy 69 = .ok (.iaload, 1) := by decide +kernel
theorem dX7_greedy_70 : decode cX7_greedy 70 = .ok (.if_icmp .le 8, 3) := by decide +kernel
theorem dX7_greedy_73 : decode cX7_greedy 73 = .ok (.iload 7, 2) := by decide +kernel
theorem dX7_greedy_75 : decode cX7_greedy 75 = .ok (.goto 5, 3) := by decide +kernel
theorem dX7_greedy_78 : decode cX7_greedy 78 = .ok (.iload 6, 2) := by decide +kernel
theorem dX7_greedy_80 : decode cX7_greedy 80 = .ok (.istore 6, 2) := by decide +kernel
theorem dX7_greedy_82 : decode cX7_greedy 82 = .ok (.iinc 7 1, 3) := by decide +kernel
theorem dX7_greedy_85 : decode cX7_greedy 85 = .ok (.goto (-61), 3) := by decide +kernel
theorem dX7_greedy_88 : decode cX7_greedy 88 = .ok (.iload 6, 2) := by decide +kernel
theorem dX7_greedy_90 : decode cX7_greedy 90 = .ok (.ifCond .ge 6, 3) := by decide +kernel
theorem dX7_greedy_93 : decode cX7_greedy 93 = .ok (.ldc 60, 2) := by decide +kernel
theorem dX7_greedy_95 : decode cX7_greedy 95 = .ok (.ireturn, 1) := by decide +kernel
theorem dX7_greedy_96 : decode cX7_greedy 96 = .ok (.iload 5, 2) := by decide +kernel
theorem dX7_greedy_98 : decode cX7_greedy 98 = .ok (.iconst 1, 1) := by decide +kernel
theorem dX7_greedy_99 : decode cX7_greedy 99 = .ok (.iload 6, 2) := by decide +kernel
theorem dX7_greedy_101 : decode cX7_greedy 101 = .ok (.ishl, 1) := by decide +kernel
theorem dX7_greedy_102 : decode cX7_greedy 102 = .ok (.ixor, 1) := by decide +kernel
theorem dX7_greedy_103 : decode cX7_greedy 103 = .ok (.istore 5, 2) := by decide +kernel
theorem dX7_greedy_105 : decode cX7_greedy 105 = .ok (.iload_n 3, 1) := by decide +kernel
theorem dX7_greedy_106 : decode cX7_greedy 106 = .ok (.aload_n 0, 1) := by decide +kernel
theorem dX7_greedy_107 : decode cX7_greedy 107 = .ok (.getfield 31, 3) := by decide +kernel
theorem dX7_greedy_110 : decode cX7_greedy 110 = .ok (.iload 6, 2) := by decide +kernel
theorem dX7_greedy_112 : decode cX7_greedy 112 = .ok (.iaload, 1) := by decide +kernel
theorem dX7_greedy_113 : decode cX7_greedy 113 = .ok (.iadd, 1) := by decide +kernel
theorem dX7_greedy_114 : decode cX7_greedy 114 = .ok (.istore_n 3, 1) := by decide +kernel
theorem dX7_greedy_115 : decode cX7_greedy 115 = .ok (.iinc 4 1, 3) := by decide +kernel
theorem dX7_greedy_118 : decode cX7_greedy 118 = .ok (.goto (-106), 3) := by decide +kernel
theorem dX7_greedy_121 : decode cX7_greedy 121 = .ok (.iload 4, 2) := by decide +kernel
theorem dX7_greedy_123 : decode cX7_greedy 123 = .ok (.ireturn, 1) := by decide +kernel
theorem dX7_bySets_0 : decode cX7_bySets 0 = .ok (.ldc 60, 2) := by decide +kernel
theorem dX7_bySets_2 : decode cX7_bySets 2 = .ok (.istore_n 3, 1) := by decide +kernel
theorem dX7_bySets_3 : decode cX7_bySets 3 = .ok (.iconst 0, 1) := by decide +kernel
theorem dX7_bySets_4 : decode cX7_bySets 4 = .ok (.istore 4, 2) := by decide +kernel
theorem dX7_bySets_6 : decode cX7_bySets 6 = .ok (.iload 4, 2) := by decide +kernel
theorem dX7_bySets_8 : decode cX7_bySets 8 = .ok (.iconst 1, 1) := by decide +kernel
theorem dX7_bySets_9 : decode cX7_bySets 9 = .ok (.iload_n 2, 1) := by decide +kernel
theorem dX7_bySets_10 : decode cX7_bySets 10 = .ok (.ishl, 1) := by decide +kernel
theorem dX7_bySets_11 : decode cX7_bySets 11 = .ok (.if_icmp .ge 92, 3) := by decide +kernel
theorem dX7_bySets_14 : decode cX7_bySets 14 = .ok (.iconst 0, 1) := by decide +kernel
theorem dX7_bySets_15 : decode cX7_bySets 15 = .ok (.istore 5, 2) := by decide +kernel
theorem dX7_bySets_17 : decode cX7_bySets 17 = .ok (.iconst 0, 1) := by decide +kernel
theorem dX7_bySets_18 : decode cX7_bySets 18 = .ok (.istore 6, 2) := by decide +kernel
theorem dX7_bySets_20 : decode cX7_bySets 20 = .ok (.iconst 0, 1) := by decide +kernel
theorem dX7_bySets_21 : decode cX7_bySets 21 = .ok (.istore 7, 2) := by decide +kernel
theorem dX7_bySets_23 : decode cX7_bySets 23 = .ok (.iload 7, 2) := by decide +kernel
theorem dX7_bySets_25 : decode cX7_bySets 25 = .ok (.iload_n 2, 1) := by decide +kernel
theorem dX7_bySets_26 : decode cX7_bySets 26 = .ok (.if_icmp .ge 48, 3) := by decide +kernel
theorem dX7_bySets_29 : decode cX7_bySets 29 = .ok (.iload 5, 2) := by decide +kernel
theorem dX7_bySets_31 : decode cX7_bySets 31 = .ok (.iload 4, 2) := by decide +kernel
theorem dX7_bySets_33 : decode cX7_bySets 33 = .ok (.iload 7, 2) := by decide +kernel
theorem dX7_bySets_35 : decode cX7_bySets 35 = .ok (.ishr, 1) := by decide +kernel
theorem dX7_bySets_36 : decode cX7_bySets 36 = .ok (.iconst 1, 1) := by decide +kernel
theorem dX7_bySets_37 : decode cX7_bySets 37 = .ok (.iand, 1) := by decide +kernel
theorem dX7_bySets_38 : decode cX7_bySets 38 = .ok (.iconst 1, 1) := by decide +kernel
theorem dX7_bySets_39 : decode cX7_bySets 39 = .ok (.if_icmp .ne 13, 3) := by decide +kernel
theorem dX7_bySets_42 : decode cX7_bySets 42 = .ok (.aload_n 0, 1) := by decide +kernel
theorem dX7_bySets_43 : decode cX7_bySets 43 = .ok (.getfield 31, 3) := by decide +kernel
theorem dX7_bySets_46 : decode cX7_bySets 46 = .ok (.iload 7, 2) := by decide +kernel
theorem dX7_bySets_48 : decode cX7_bySets 48 = .ok (.iaload, 1) := by decide +kernel
theorem dX7_bySets_49 : decode cX7_bySets 49 = .ok (.goto 4, 3) := by decide +kernel
theorem dX7_bySets_52 : decode cX7_bySets 52 = .ok (.iconst 0, 1) := by decide +kernel
theorem dX7_bySets_53 : decode cX7_bySets 53 = .ok (.iadd, 1) := by decide +kernel
theorem dX7_bySets_54 : decode cX7_bySets 54 = .ok (.istore 5, 2) := by decide +kernel
theorem dX7_bySets_56 : decode cX7_bySets 56 = .ok (.iload 6, 2) := by decide +kernel
theorem dX7_bySets_58 : decode cX7_bySets 58 = .ok (.iload 4, 2) := by decide +kernel
theorem dX7_bySets_60 : decode cX7_bySets 60 = .ok (.iload 7, 2) := by decide +kernel
theorem dX7_bySets_62 : decode cX7_bySets 62 = .ok (.ishr, 1) := by decide +kernel
theorem dX7_bySets_63 : decode cX7_bySets 63 = .ok (.iconst 1, 1) := by decide +kernel
theorem dX7_bySets_64 : decode cX7_bySets 64 = .ok (.iand, 1) := by decide +kernel
theorem dX7_bySets_65 : decode cX7_bySets 65 = .ok (.iadd, 1) := by decide +kernel
theorem dX7_bySets_66 : decode cX7_bySets 66 = .ok (.istore 6, 2) := by decide +kernel
theorem dX7_bySets_68 : decode cX7_bySets 68 = .ok (.iinc 7 1, 3) := by decide +kernel
theorem dX7_bySets_71 : decode cX7_bySets 71 = .ok (.goto (-48), 3) := by decide +kernel
theorem dX7_bySets_74 : decode cX7_bySets 74 = .ok (.iload 5, 2) := by decide +kernel
theorem dX7_bySets_76 : decode cX7_bySets 76 = .ok (.iload_n 1, 1) := by decide +kernel
theorem dX7_bySets_77 : decode cX7_bySets 77 = .ok (.if_icmp .lt 18, 3) := by decide +kernel
theorem dX7_bySets_80 : decode cX7_bySets 80 = .ok (.iload_n 3, 1) := by decide +kernel
theorem dX7_bySets_81 : decode cX7_bySets 81 = .ok (.ifCond .lt 9, 3) := by decide +kernel
theorem dX7_bySets_84 : decode cX7_bySets 84 = .ok (.iload 6, 2) := by decide +kernel
theorem dX7_bySets_86 : decode cX7_bySets 86 = .ok (.iload_n 3, 1) := by decide +kernel
theorem dX7_bySets_87 : decode cX7_bySets 87 = .ok (.if_icmp .ge 8, 3) := by decide +kernel
theorem dX7_bySets_90 : decode cX7_bySets 90 = .ok (.iload 6, 2) := by decide +kernel
theorem dX7_bySets_92 : decode cX7_bySets 92 = .ok (.goto 4, 3) := by decide +kernel
theorem dX7_bySets_95 : decode cX7_bySets 95 = .ok (.iload_n 3, 1) := by decide +kernel
theorem dX7_bySets_96 : decode cX7_bySets 96 = .ok (.istore_n 3, 1) := by decide +kernel
theorem dX7_bySets_97 : decode cX7_bySets 97 = .ok (.iinc 4 1, 3) := by decide +kernel
theorem dX7_bySets_100 : decode cX7_bySets 100 = .ok (.goto (-94), 3) := by decide +kernel
theorem dX7_bySets_103 : decode cX7_bySets 103 = .ok (.iload_n 3, 1) := by decide +kernel
theorem dX7_bySets_104 : decode cX7_bySets 104 = .ok (.ireturn, 1) := by decide +kernel
theorem dX7_fewest_0 : decode cX7_fewest 0 = .ok (.iload_n 1, 1) := by decide +kernel
theorem dX7_fewest_1 : decode cX7_fewest 1 = .ok (.iconst 0, 1) := by decide +kernel
theorem dX7_fewest_2 : decode cX7_fewest 2 = .ok (.iconst 1, 1) := by decide +kernel
theorem dX7_fewest_3 : decode cX7_fewest 3 = .ok (.invokestatic 45, 3) := by decide +kernel
theorem dX7_fewest_6 : decode cX7_fewest 6 = .ok (.ifCond .ne 6, 3) := by decide +kernel
theorem dX7_fewest_9 : decode cX7_fewest 9 = .ok (.ldc 96, 2) := by decide +kernel
theorem dX7_fewest_11 : decode cX7_fewest 11 = .ok (.ireturn, 1) := by decide +kernel
theorem dX7_fewest_12 : decode cX7_fewest 12 = .ok (.aload_n 0, 1) := by decide +kernel
theorem dX7_fewest_13 : decode cX7_fewest 13 = .ok (.getfield 7, 3) := by decide +kernel
theorem dX7_fewest_16 : decode cX7_fewest 16 = .ok (.sipush 148, 3) := by decide +kernel
theorem dX7_fewest_19 : decode cX7_fewest 19 = .ok (.iaload, 1) := by decide +kernel
theorem dX7_fewest_20 : decode cX7_fewest 20 = .ok (.ifCond .ne 6, 3) := by decide +kernel
theorem dX7_fewest_23 : decode cX7_fewest 23 = .ok (.ldc 60, 2) := by decide +kernel
theorem dX7_fewest_25 : decode cX7_fewest 25 = .ok (.ireturn, 1) := by decide +kernel
theorem dX7_fewest_26 : decode cX7_fewest 26 = .ok (.aload_n 0, 1) := by decide +kernel
theorem dX7_fewest_27 : decode cX7_fewest 27 = .ok (.invokevirtual 79, 3) := by decide +kernel
theorem dX7_fewest_30 : decode cX7_fewest 30 = .ok (.istore_n 2, 1) := by decide +kernel
theorem dX7_fewest_31 : decode cX7_fewest 31 = .ok (.aload_n 0, 1) := by decide +kernel
theorem dX7_fewest_32 : decode cX7_fewest 32 = .ok (.invokevirtual 82, 3) := by decide +kernel
theorem dX7_fewest_35 : decode cX7_fewest 35 = .ok (.iconst 2, 1) := by decide +kernel
theorem dX7_fewest_36 : decode cX7_fewest 36 = .ok (.idiv, 1) := by decide +kernel
theorem dX7_fewest_37 : decode cX7_fewest 37 = .ok (.iconst 1, 1) := by decide +kernel
theorem dX7_fewest_38 : decode cX7_fewest 38 = .ok (.iadd, 1) := by decide +kernel
theorem dX7_fewest_39 : decode cX7_fewest 39 = .ok (.iload_n 2, 1) := by decide +kernel
theorem dX7_fewest_40 : decode cX7_fewest 40 = .ok (.isub, 1) := by decide +kernel
theorem dX7_fewest_41 : decode cX7_fewest 41 = .ok (.istore_n 3, 1) := by decide +kernel
theorem dX7_fewest_42 : decode cX7_fewest 42 = .ok (.aload_n 0, 1) := by decide +kernel
theorem dX7_fewest_43 : decode cX7_fewest 43 = .ok (.invokevirtual 136, 3) := by decide +kernel
theorem dX7_fewest_46 : decode cX7_fewest 46 = .ok (.istore 4, 2) := by decide +kernel
theorem dX7_fewest_48 : decode cX7_fewest 48 = .ok (.iload_n 1, 1) := by decide +kernel
theorem dX7_fewest_49 : decode cX7_fewest 49 = .ok (.ifCond .ne 13, 3) := by decide +kernel
theorem dX7_fewest_52 : decode cX7_fewest 52 = .ok (.aload_n 0, 1) := by decide +kernel
theorem dX7_fewest_53 : decode cX7_fewest 53 = .ok (.iload_n 3, 1) := by decide +kernel
theorem dX7_fewest_54 : decode cX7_fewest 54 = .ok (.iload 4, 2) := by decide +kernel
theorem dX7_fewest_56 : decode cX7_fewest 56 = .ok (.invokevirtual 139, 3) := by decide +kernel
theorem dX7_fewest_59 : decode cX7_fewest 59 = .ok (.goto 10, 3) := by decide +kernel
theorem dX7_fewest_62 : decode cX7_fewest 62 = .ok (.aload_n 0, 1) := by decide +kernel
theorem dX7_fewest_63 : decode cX7_fewest 63 = .ok (.iload_n 3, 1) := by decide +kernel
theorem dX7_fewest_64 : decode cX7_fewest 64 = .ok (.iload 4, 2) := by decide +kernel
theorem dX7_fewest_66 : decode cX7_fewest 66 = .ok (.invokevirtual 142, 3) := by decide +kernel
theorem dX7_fewest_69 : decode cX7_fewest 69 = .ok (.ireturn, 1) := by decide +kernel
theorem dX7_ifCut_0 : decode cX7_ifCut 0 = .ok (.aload_n 0, 1) := by decide +kernel
theorem dX7_ifCut_1 : decode cX7_ifCut 1 = .ok (.iload_n 1, 1) := by decide +kernel
theorem dX7_ifCut_2 : decode cX7_ifCut 2 = .ok (.invokevirtual 102, 3) := by decide +kernel
theorem dX7_ifCut_5 : decode cX7_ifCut 5 = .ok (.ifCond .eq 12, 3) := by decide +kernel
theorem dX7_ifCut_8 : decode cX7_ifCut 8 = .ok (.iload_n 2, 1) := by decide +kernel
theorem dX7_ifCut_9 : decode cX7_ifCut 9 = .ok (.iconst 0, 1) := by decide +kernel
theorem dX7_ifCut_10 : decode cX7_ifCut 10 = .ok (.iconst 1, 1) := by decide +kernel
theorem dX7_ifCut_11 : decode cX7_ifCut 11 = .ok (.invokestatic 45, 3) := by decide +kernel
theorem dX7_ifCut_14 : decode cX7_ifCut 14 = .ok (.ifCond .ne 6, 3) := by decide +kernel
theorem dX7_ifCut_17 : decode cX7_ifCut 17 = .ok (.ldc 96, 2) := by decide +kernel
theorem dX7_ifCut_19 : decode cX7_ifCut 19 = .ok (.ireturn, 1) := by decide +kernel
theorem dX7_ifCut_20 : decode cX7_ifCut 20 = .ok (.aload_n 0, 1) := by decide +kernel
theorem dX7_ifCut_21 : decode cX7_ifCut 21 = .ok (.iload_n 1, 1) := by decide +kernel
theorem dX7_ifCut_22 : decode cX7_ifCut 22 = .ok (.invokevirtual 71, 3) := by decide +kernel
theorem dX7_ifCut_25 : decode cX7_ifCut 25 = .ok (.iload_n 2, 1) := by decide +kernel
theorem dX7_ifCut_26 : decode cX7_ifCut 26 = .ok (.ifCond .ne 10, 3) := by decide +kernel
theorem dX7_ifCut_29 : decode cX7_ifCut 29 = .ok (.aload_n 0, 1) := by decide +kernel
theorem dX7_ifCut_30 : decode cX7_ifCut 30 = .ok (.invokevirtual 75, 3) := by decide +kernel
theorem dX7_ifCut_33 : decode cX7_ifCut 33 = .ok (.goto 7, 3) := by decide +kernel
theorem dX7_ifCut_36 : decode cX7_ifCut 36 = .ok (.aload_n 0, 1) := by decide +kernel
theorem dX7_ifCut_37 : decode cX7_ifCut 37 = .ok (.invokevirtual 145, 3) := by decide +kernel
theorem dX7_ifCut_40 : decode cX7_ifCut 40 = .ok (.ireturn, 1) := by decide +kernel
theorem dX7_share_0 : decode cX7_share 0 = .ok (.aload_n 0, 1) := by decide +kernel
theorem dX7_share_1 : decode cX7_share 1 = .ok (.invokevirtual 79, 3) := by decide +kernel
theorem dX7_share_4 : decode cX7_share 4 = .ok (.i2f, 1) := by decide +kernel
theorem dX7_share_5 : decode cX7_share 5 = .ok (.fstore_n 1, 1) := by decide +kernel
theorem dX7_share_6 : decode cX7_share 6 = .ok (.aload_n 0, 1) := by decide +kernel
theorem dX7_share_7 : decode cX7_share 7 = .ok (.invokevirtual 82, 3) := by decide +kernel
theorem dX7_share_10 : decode cX7_share 10 = .ok (.i2f, 1) := by decide +kernel
theorem dX7_share_11 : decode cX7_share 11 = .ok (.fstore_n 2, 1) := by decide +kernel
theorem dX7_share_12 : decode cX7_share 12 = .ok (.aload_n 0, 1) := by decide +kernel
theorem dX7_share_13 : decode cX7_share 13 = .ok (.getfield 7, 3) := by decide +kernel
theorem dX7_share_16 : decode cX7_share 16 = .ok (.sipush 148, 3) := by decide +kernel
theorem dX7_share_19 : decode cX7_share 19 = .ok (.iaload, 1) := by decide +kernel
theorem dX7_share_20 : decode cX7_share 20 = .ok (.ifCond .ne 8, 3) := by decide +kernel
theorem dX7_share_23 : decode cX7_share 23 = .ok (.ldc 60, 2) := by decide +kernel
theorem dX7_share_25 : decode cX7_share 25 = .ok (.goto 9, 3) := by decide +kernel
theorem dX7_share_28 : decode cX7_share 28 = .ok (.fload_n 1, 1) := by decide +kernel
theorem dX7_share_29 : decode cX7_share 29 = .ok (.fload_n 2, 1) := by decide +kernel
theorem dX7_share_30 : decode cX7_share 30 = .ok (.fdiv, 1) := by decide +kernel
theorem dX7_share_31 : decode cX7_share 31 = .ok (.invokestatic 148, 3) := by decide +kernel
theorem dX7_share_34 : decode cX7_share 34 = .ok (.ireturn, 1) := by decide +kernel
theorem dX7_pulledSet_0 : decode cX7_pulledSet 0 = .ok (.iconst 0, 1) := by decide +kernel
theorem dX7_pulledSet_1 : decode cX7_pulledSet 1 = .ok (.istore_n 1, 1) := by decide +kernel
theorem dX7_pulledSet_2 : decode cX7_pulledSet 2 = .ok (.iconst 0, 1) := by decide +kernel
theorem dX7_pulledSet_3 : decode cX7_pulledSet 3 = .ok (.istore_n 2, 1) := by decide +kernel
theorem dX7_pulledSet_4 : decode cX7_pulledSet 4 = .ok (.iload_n 2, 1) := by decide +kernel
theorem dX7_pulledSet_5 : decode cX7_pulledSet 5 = .ok (.aload_n 0, 1) := by decide +kernel
theorem dX7_pulledSet_6 : decode cX7_pulledSet 6 = .ok (.getfield 7, 3) := by decide +kernel
theorem dX7_pulledSet_9 : decode cX7_pulledSet 9 = .ok (.sipush 148, 3) := by decide +kernel
theorem dX7_pulledSet_12 : decode cX7_pulledSet 12 = .ok (.iaload, 1) := by decide +kernel
theorem dX7_pulledSet_13 : decode cX7_pulledSet 13 = .ok (.if_icmp .ge 28, 3) := by decide +kernel
theorem dX7_pulledSet_16 : decode cX7_pulledSet 16 = .ok (.iload_n 1, 1) := by decide +kernel
theorem dX7_pulledSet_17 : decode cX7_pulledSet 17 = .ok (.aload_n 0, 1) := by decide +kernel
theorem dX7_pulledSet_18 : decode cX7_pulledSet 18 = .ok (.iload_n 2, 1) := by decide +kernel
theorem dX7_pulledSet_19 : decode cX7_pulledSet 19 = .ok (.iconst 2, 1) := by decide +kernel
theorem dX7_pulledSet_20 : decode cX7_pulledSet 20 = .ok (.invokevirtual 61, 3) := by decide +kernel
theorem dX7_pulledSet_23 : decode cX7_pulledSet 23 = .ok (.ifCond .le 9, 3) := by decide +kernel
theorem dX7_pulledSet_26 : decode cX7_pulledSet 26 = .ok (.iconst 1, 1) := by decide +kernel
theorem dX7_pulledSet_27 : decode cX7_pulledSet 27 = .ok (.iload_n 2, 1) := by decide +kernel
theorem dX7_pulledSet_28 : decode cX7_pulledSet 28 = .ok (.ishl, 1) := by decide +kernel
theorem dX7_pulledSet_29 : decode cX7_pulledSet 29 = .ok (.goto 4, 3) := by decide +kernel
theorem dX7_pulledSet_32 : decode cX7_pulledSet 32 = .ok (.iconst 0, 1) := by decide +kernel
theorem dX7_pulledSet_33 : decode cX7_pulledSet 33 = .ok (.ior, 1) := by decide +kernel
theorem dX7_pulledSet_34 : decode cX7_pulledSet 34 = .ok (.istore_n 1, 1) := by decide +kernel
theorem dX7_pulledSet_35 : decode cX7_pulledSet 35 = .ok (.iinc 2 1, 3) := by decide +kernel
theorem dX7_pulledSet_38 : decode cX7_pulledSet 38 = .ok (.goto (-34), 3) := by decide +kernel
theorem dX7_pulledSet_41 : decode cX7_pulledSet 41 = .ok (.iload_n 1, 1) := by decide +kernel
theorem dX7_pulledSet_42 : decode cX7_pulledSet 42 = .ok (.ireturn, 1) := by decide +kernel
theorem dX7_walked_0 : decode cX7_walked 0 = .ok (.iconst 0, 1) := by decide +kernel
theorem dX7_walked_1 : decode cX7_walked 1 = .ok (.istore_n 1, 1) := by decide +kernel
theorem dX7_walked_2 : decode cX7_walked 2 = .ok (.iconst 0, 1) := by decide +kernel
theorem dX7_walked_3 : decode cX7_walked 3 = .ok (.istore_n 2, 1) := by decide +kernel
theorem dX7_walked_4 : decode cX7_walked 4 = .ok (.iconst 0, 1) := by decide +kernel
theorem dX7_walked_5 : decode cX7_walked 5 = .ok (.istore_n 3, 1) := by decide +kernel
theorem dX7_walked_6 : decode cX7_walked 6 = .ok (.iload_n 3, 1) := by decide +kernel
theorem dX7_walked_7 : decode cX7_walked 7 = .ok (.aload_n 0, 1) := by decide +kernel
theorem dX7_walked_8 : decode cX7_walked 8 = .ok (.getfield 7, 3) := by decide +kernel
theorem dX7_walked_11 : decode cX7_walked 11 = .ok (.sipush 148, 3) := by decide +kernel
theorem dX7_walked_14 : decode cX7_walked 14 = .ok (.iaload, 1) := by decide +kernel
theorem dX7_walked_15 : decode cX7_walked 15 = .ok (.if_icmp .ge 60, 3) := by decide +kernel
theorem dX7_walked_18 : decode cX7_walked 18 = .ok (.iload_n 1, 1) := by decide +kernel
theorem dX7_walked_19 : decode cX7_walked 19 = .ok (.iload_n 3, 1) := by decide +kernel
theorem dX7_walked_20 : decode cX7_walked 20 = .ok (.ishr, 1) := by decide +kernel
theorem dX7_walked_21 : decode cX7_walked 21 = .ok (.iconst 1, 1) := by decide +kernel
theorem dX7_walked_22 : decode cX7_walked 22 = .ok (.iand, 1) := by decide +kernel
theorem dX7_walked_23 : decode cX7_walked 23 = .ok (.ifCond .ne 46, 3) := by decide +kernel
theorem dX7_walked_26 : decode cX7_walked 26 = .ok (.iconst 1, 1) := by decide +kernel
theorem dX7_walked_27 : decode cX7_walked 27 = .ok (.iload_n 3, 1) := by decide +kernel
theorem dX7_walked_28 : decode cX7_walked 28 = .ok (.ishl, 1) := by decide +kernel
theorem dX7_walked_29 : decode cX7_walked 29 = .ok (.istore 4, 2) := by decide +kernel
theorem dX7_walked_31 : decode cX7_walked 31 = .ok (.aload_n 0, 1) := by decide +kernel
theorem dX7_walked_32 : decode cX7_walked 32 = .ok (.iload 4, 2) := by decide +kernel
theorem dX7_walked_34 : decode cX7_walked 34 = .ok (.invokevirtual 130, 3) := by decide +kernel
theorem dX7_walked_37 : decode cX7_walked 37 = .ok (.istore 5, 2) := by decide +kernel
theorem dX7_walked_39 : decode cX7_walked 39 = .ok (.iload 5, 2) := by decide +kernel
theorem dX7_walked_41 : decode cX7_walked 41 = .ok (.iload 4, 2) := by decide +kernel
theorem dX7_walked_43 : decode cX7_walked 43 = .ok (.if_icmp .eq 18, 3) := by decide +kernel
theorem dX7_walked_46 : decode cX7_walked 46 = .ok (.iload 5, 2) := by decide +kernel
theorem dX7_walked_48 : decode cX7_walked 48 = .ok (.istore 4, 2) := by decide +kernel
theorem dX7_walked_50 : decode cX7_walked 50 = .ok (.aload_n 0, 1) := by decide +kernel
theorem dX7_walked_51 : decode cX7_walked 51 = .ok (.iload 4, 2) := by decide +kernel
theorem dX7_walked_53 : decode cX7_walked 53 = .ok (.invokevirtual 130, 3) := by decide +kernel
theorem dX7_walked_56 : decode cX7_walked 56 = .ok (.istore 5, 2) := by decide +kernel
theorem dX7_walked_58 : decode cX7_walked 58 = .ok (.goto (-19), 3) := by decide +kernel
theorem dX7_walked_61 : decode cX7_walked 61 = .ok (.iload_n 1, 1) := by decide +kernel
theorem dX7_walked_62 : decode cX7_walked 62 = .ok (.iload 4, 2) := by decide +kernel
theorem dX7_walked_64 : decode cX7_walked 64 = .ok (.ior, 1) := by decide +kernel
theorem dX7_walked_65 : decode cX7_walked 65 = .ok (.istore_n 1, 1) := by decide +kernel
theorem dX7_walked_66 : decode cX7_walked 66 = .ok (.iinc 2 1, 3) := by decide +kernel
theorem dX7_walked_69 : decode cX7_walked 69 = .ok (.iinc 3 1, 3) := by decide +kernel
theorem dX7_walked_72 : decode cX7_walked 72 = .ok (.goto (-66), 3) := by decide +kernel
theorem dX7_walked_75 : decode cX7_walked 75 = .ok (.iload_n 2, 1) := by decide +kernel
theorem dX7_walked_76 : decode cX7_walked 76 = .ok (.ireturn, 1) := by decide +kernel
theorem dX7_count_0 : decode cX7_count 0 = .ok (.aload_n 0, 1) := by decide +kernel
theorem dX7_count_1 : decode cX7_count 1 = .ok (.invokevirtual 79, 3) := by decide +kernel
theorem dX7_count_4 : decode cX7_count 4 = .ok (.istore_n 2, 1) := by decide +kernel
theorem dX7_count_5 : decode cX7_count 5 = .ok (.iload_n 1, 1) := by decide +kernel
theorem dX7_count_6 : decode cX7_count 6 = .ok (.tableswitch 234 0 20 #[98, 98, 109, 114, 119, 124, 126, 133, 162, 187, 192, 192, 192, 206, 211, 216, 234, 234, 234, 234, 225], 98) := by decide +kernel
theorem dX7_count_104 : decode cX7_count 104 = .ok (.aload_n 0, 1) := by decide +kernel
theorem dX7_count_105 : decode cX7_count 105 = .ok (.getfield 7, 3) := by decide +kernel
theorem dX7_count_108 : decode cX7_count 108 = .ok (.sipush 148, 3) := by decide +kernel
theorem dX7_count_111 : decode cX7_count 111 = .ok (.iload_n 1, 1) := by decide +kernel
theorem dX7_count_112 : decode cX7_count 112 = .ok (.iadd, 1) := by decide +kernel
theorem dX7_count_113 : decode cX7_count 113 = .ok (.iaload, 1) := by decide +kernel
theorem dX7_count_114 : decode cX7_count 114 = .ok (.ireturn, 1) := by decide +kernel
theorem dX7_count_115 : decode cX7_count 115 = .ok (.aload_n 0, 1) := by decide +kernel
theorem dX7_count_116 : decode cX7_count 116 = .ok (.invokevirtual 145, 3) := by decide +kernel
theorem dX7_count_119 : decode cX7_count 119 = .ok (.ireturn, 1) := by decide +kernel
theorem dX7_count_120 : decode cX7_count 120 = .ok (.aload_n 0, 1) := by decide +kernel
theorem dX7_count_121 : decode cX7_count 121 = .ok (.invokevirtual 154, 3) := by decide +kernel
theorem dX7_count_124 : decode cX7_count 124 = .ok (.ireturn, 1) := by decide +kernel
theorem dX7_count_125 : decode cX7_count 125 = .ok (.aload_n 0, 1) := by decide +kernel
theorem dX7_count_126 : decode cX7_count 126 = .ok (.invokevirtual 82, 3) := by decide +kernel
theorem dX7_count_129 : decode cX7_count 129 = .ok (.ireturn, 1) := by decide +kernel
theorem dX7_count_130 : decode cX7_count 130 = .ok (.iload_n 2, 1) := by decide +kernel
theorem dX7_count_131 : decode cX7_count 131 = .ok (.ireturn, 1) := by decide +kernel
theorem dX7_count_132 : decode cX7_count 132 = .ok (.aload_n 0, 1) := by decide +kernel
theorem dX7_count_133 : decode cX7_count 133 = .ok (.invokevirtual 82, 3) := by decide +kernel
theorem dX7_count_136 : decode cX7_count 136 = .ok (.iload_n 2, 1) := by decide +kernel
theorem dX7_count_137 : decode cX7_count 137 = .ok (.isub, 1) := by decide +kernel
theorem dX7_count_138 : decode cX7_count 138 = .ok (.ireturn, 1) := by decide +kernel
theorem dX7_count_139 : decode cX7_count 139 = .ok (.aload_n 0, 1) := by decide +kernel
theorem dX7_count_140 : decode cX7_count 140 = .ok (.getfield 7, 3) := by decide +kernel
theorem dX7_count_143 : decode cX7_count 143 = .ok (.sipush 148, 3) := by decide +kernel
theorem dX7_count_146 : decode cX7_count 146 = .ok (.iaload, 1) := by decide +kernel
theorem dX7_count_147 : decode cX7_count 147 = .ok (.ifCond .ne 8, 3) := by decide +kernel
theorem dX7_count_150 : decode cX7_count 150 = .ok (.ldc 60, 2) := by decide +kernel
theorem dX7_count_152 : decode cX7_count 152 = .ok (.goto 15, 3) := by decide +kernel
theorem dX7_count_155 : decode cX7_count 155 = .ok (.aload_n 0, 1) := by decide +kernel
theorem dX7_count_156 : decode cX7_count 156 = .ok (.invokevirtual 117, 3) := by decide +kernel
theorem dX7_count_159 : decode cX7_count 159 = .ok (.ifCond .eq 7, 3) := by decide +kernel
theorem dX7_count_162 : decode cX7_count 162 = .ok (.iconst 1, 1) := by decide +kernel
theorem dX7_count_163 : decode cX7_count 163 = .ok (.goto 4, 3) := by decide +kernel
theorem dX7_count_166 : decode cX7_count 166 = .ok (.iconst 0, 1) := by decide +kernel
theorem dX7_count_167 : decode cX7_count 167 = .ok (.ireturn, 1) := by decide +kernel
theorem dX7_count_168 : decode cX7_count 168 = .ok (.aload_n 0, 1) := by decide +kernel
theorem dX7_count_169 : decode cX7_count 169 = .ok (.getfield 7, 3) := by decide +kernel
theorem dX7_count_172 : decode cX7_count 172 = .ok (.sipush 148, 3) := by decide +kernel
theorem dX7_count_175 : decode cX7_count 175 = .ok (.iaload, 1) := by decide +kernel
theorem dX7_count_176 : decode cX7_count 176 = .ok (.ifCond .ne 8, 3) := by decide +kernel
theorem dX7_count_179 : decode cX7_count 179 = .ok (.ldc 60, 2) := by decide +kernel
theorem dX7_count_181 : decode cX7_count 181 = .ok (.goto 11, 3) := by decide +kernel
theorem dX7_count_184 : decode cX7_count 184 = .ok (.aload_n 0, 1) := by decide +kernel
theorem dX7_count_185 : decode cX7_count 185 = .ok (.getfield 7, 3) := by decide +kernel
theorem dX7_count_188 : decode cX7_count 188 = .ok (.sipush 150, 3) := by decide +kernel
theorem dX7_count_191 : decode cX7_count 191 = .ok (.iaload, 1) := by decide +kernel
theorem dX7_count_192 : decode cX7_count 192 = .ok (.ireturn, 1) := by decide +kernel
theorem dX7_count_193 : decode cX7_count 193 = .ok (.aload_n 0, 1) := by decide +kernel
theorem dX7_count_194 : decode cX7_count 194 = .ok (.invokevirtual 157, 3) := by decide +kernel
theorem dX7_count_197 : decode cX7_count 197 = .ok (.ireturn, 1) := by decide +kernel
theorem dX7_count_198 : decode cX7_count 198 = .ok (.aload_n 0, 1) := by decide +kernel
theorem dX7_count_199 : decode cX7_count 199 = .ok (.getfield 7, 3) := by decide +kernel
theorem dX7_count_202 : decode cX7_count 202 = .ok (.sipush 151, 3) := by decide +kernel
theorem dX7_count_205 : decode cX7_count 205 = .ok (.iload_n 1, 1) := by decide +kernel
theorem dX7_count_206 : decode cX7_count 206 = .ok (.iadd, 1) := by decide +kernel
theorem dX7_count_207 : decode cX7_count 207 = .ok (.bipush 10, 2) := by decide +kernel
theorem dX7_count_209 : decode cX7_count 209 = .ok (.isub, 1) := by decide +kernel
theorem dX7_count_210 : decode cX7_count 210 = .ok (.iaload, 1) := by decide +kernel
theorem dX7_count_211 : decode cX7_count 211 = .ok (.ireturn, 1) := by decide +kernel
theorem dX7_count_212 : decode cX7_count 212 = .ok (.aload_n 0, 1) := by decide +kernel
theorem dX7_count_213 : decode cX7_count 213 = .ok (.getfield 41, 3) := by decide +kernel
theorem dX7_count_216 : decode cX7_count 216 = .ok (.ireturn, 1) := by decide +kernel
theorem dX7_count_217 : decode cX7_count 217 = .ok (.aload_n 0, 1) := by decide +kernel
theorem dX7_count_218 : decode cX7_count 218 = .ok (.getfield 160, 3) := by decide +kernel
theorem dX7_count_221 : decode cX7_count 221 = .ok (.ireturn, 1) := by decide +kernel
theorem dX7_count_222 : decode cX7_count 222 = .ok (.aload_n 0, 1) := by decide +kernel
theorem dX7_count_223 : decode cX7_count 223 = .ok (.getfield 7, 3) := by decide +kernel
theorem dX7_count_226 : decode cX7_count 226 = .ok (.sipush 154, 3) := by decide +kernel
theorem dX7_count_229 : decode cX7_count 229 = .ok (.iaload, 1) := by decide +kernel
theorem dX7_count_230 : decode cX7_count 230 = .ok (.ireturn, 1) := by decide +kernel
theorem dX7_count_231 : decode cX7_count 231 = .ok (.aload_n 0, 1) := by decide +kernel
theorem dX7_count_232 : decode cX7_count 232 = .ok (.getfield 7, 3) := by decide +kernel
theorem dX7_count_235 : decode cX7_count 235 = .ok (.sipush 155, 3) := by decide +kernel
theorem dX7_count_238 : decode cX7_count 238 = .ok (.iaload, 1) := by decide +kernel
theorem dX7_count_239 : decode cX7_count 239 = .ok (.ireturn, 1) := by decide +kernel
theorem dX7_count_240 : decode cX7_count 240 = .ok (.ldc 96, 2) := by decide +kernel
theorem dX7_count_242 : decode cX7_count 242 = .ok (.ireturn, 1) := by decide +kernel
theorem dX7_undo_0 : decode cX7_undo 0 = .ok (.aload_n 0, 1) := by decide +kernel
theorem dX7_undo_1 : decode cX7_undo 1 = .ok (.getfield 41, 3) := by decide +kernel
theorem dX7_undo_4 : decode cX7_undo 4 = .ok (.ifCond .ne 6, 3) := by decide +kernel
theorem dX7_undo_7 : decode cX7_undo 7 = .ok (.ldc 101, 2) := by decide +kernel
theorem dX7_undo_9 : decode cX7_undo 9 = .ok (.ireturn, 1) := by decide +kernel
theorem dX7_undo_10 : decode cX7_undo 10 = .ok (.aload_n 0, 1) := by decide +kernel
theorem dX7_undo_11 : decode cX7_undo 11 = .ok (.dup, 1) := by decide +kernel
theorem dX7_undo_12 : decode cX7_undo 12 = .ok (.getfield 41, 3) := by decide +kernel
theorem dX7_undo_15 : decode cX7_undo 15 = .ok (.iconst 1, 1) := by decide +kernel
theorem dX7_undo_16 : decode cX7_undo 16 = .ok (.isub, 1) := by decide +kernel
theorem dX7_undo_17 : decode cX7_undo 17 = .ok (.putfield 41, 3) := by decide +kernel
theorem dX7_undo_20 : decode cX7_undo 20 = .ok (.iconst 0, 1) := by decide +kernel
theorem dX7_undo_21 : decode cX7_undo 21 = .ok (.istore_n 1, 1) := by decide +kernel
theorem dX7_undo_22 : decode cX7_undo 22 = .ok (.iload_n 1, 1) := by decide +kernel
theorem dX7_undo_23 : decode cX7_undo 23 = .ok (.sipush 156, 3) := by decide +kernel
theorem dX7_undo_26 : decode cX7_undo 26 = .ok (.if_icmp .ge 30, 3) := by decide +kernel
theorem dX7_undo_29 : decode cX7_undo 29 = .ok (.aload_n 0, 1) := by decide +kernel
theorem dX7_undo_30 : decode cX7_undo 30 = .ok (.getfield 7, 3) := by decide +kernel
theorem dX7_undo_33 : decode cX7_undo 33 = .ok (.iload_n 1, 1) := by decide +kernel
theorem dX7_undo_34 : decode cX7_undo 34 = .ok (.aload_n 0, 1) := by decide +kernel
theorem dX7_undo_35 : decode cX7_undo 35 = .ok (.getfield 13, 3) := by decide +kernel
theorem dX7_undo_38 : decode cX7_undo 38 = .ok (.sipush 156, 3) := by decide +kernel
theorem dX7_undo_41 : decode cX7_undo 41 = .ok (.aload_n 0, 1) := by decide +kernel
theorem dX7_undo_42 : decode cX7_undo 42 = .ok (.getfield 41, 3) := by decide +kernel
theorem dX7_undo_45 : decode cX7_undo 45 = .ok (.imul, 1) := by decide +kernel
theorem dX7_undo_46 : decode cX7_undo 46 = .ok (.iload_n 1, 1) := by decide +kernel
theorem dX7_undo_47 : decode cX7_undo 47 = .ok (.iadd, 1) := by decide +kernel
theorem dX7_undo_48 : decode cX7_undo 48 = .ok (.iaload, 1) := by decide +kernel
theorem dX7_undo_49 : decode cX7_undo 49 = .ok (.iastore, 1) := by decide +kernel
theorem dX7_undo_50 : decode cX7_undo 50 = .ok (.iinc 1 1, 3) := by decide +kernel
theorem dX7_undo_53 : decode cX7_undo 53 = .ok (.goto (-31), 3) := by decide +kernel
theorem dX7_undo_56 : decode cX7_undo 56 = .ok (.aload_n 0, 1) := by decide +kernel
theorem dX7_undo_57 : decode cX7_undo 57 = .ok (.getfield 41, 3) := by decide +kernel
theorem dX7_undo_60 : decode cX7_undo 60 = .ok (.ireturn, 1) := by decide +kernel
theorem dX7_type_0 : decode cX7_type 0 = .ok (.iload_n 1, 1) := by decide +kernel
theorem dX7_type_1 : decode cX7_type 1 = .ok (.bipush 32, 2) := by decide +kernel
theorem dX7_type_3 : decode cX7_type 3 = .ok (.bipush 126, 2) := by decide +kernel
theorem dX7_type_5 : decode cX7_type 5 = .ok (.invokestatic 45, 3) := by decide +kernel
theorem dX7_type_8 : decode cX7_type 8 = .ok (.ifCond .ne 6, 3) := by decide +kernel
theorem dX7_type_11 : decode cX7_type 11 = .ok (.ldc 96, 2) := by decide +kernel
theorem dX7_type_13 : decode cX7_type 13 = .ok (.ireturn, 1) := by decide +kernel
theorem dX7_type_14 : decode cX7_type 14 = .ok (.aload_n 0, 1) := by decide +kernel
theorem dX7_type_15 : decode cX7_type 15 = .ok (.getfield 160, 3) := by decide +kernel
theorem dX7_type_18 : decode cX7_type 18 = .ok (.bipush 60, 2) := by decide +kernel
theorem dX7_type_20 : decode cX7_type 20 = .ok (.if_icmp .ne 6, 3) := by decide +kernel
theorem dX7_type_23 : decode cX7_type 23 = .ok (.ldc 97, 2) := by decide +kernel
theorem dX7_type_25 : decode cX7_type 25 = .ok (.ireturn, 1) := by decide +kernel
theorem dX7_type_26 : decode cX7_type 26 = .ok (.aload_n 0, 1) := by decide +kernel
theorem dX7_type_27 : decode cX7_type 27 = .ok (.getfield 19, 3) := by decide +kernel
theorem dX7_type_30 : decode cX7_type 30 = .ok (.aload_n 0, 1) := by decide +kernel
theorem dX7_type_31 : decode cX7_type 31 = .ok (.getfield 160, 3) := by decide +kernel
theorem dX7_type_34 : decode cX7_type 34 = .ok (.iload_n 1, 1) := by decide +kernel
theorem dX7_type_35 : decode cX7_type 35 = .ok (.iastore, 1) := by decide +kernel
theorem dX7_type_36 : decode cX7_type 36 = .ok (.aload_n 0, 1) := by decide +kernel
theorem dX7_type_37 : decode cX7_type 37 = .ok (.dup, 1) := by decide +kernel
theorem dX7_type_38 : decode cX7_type 38 = .ok (.getfield 160, 3) := by decide +kernel
theorem dX7_type_41 : decode cX7_type 41 = .ok (.iconst 1, 1) := by decide +kernel
theorem dX7_type_42 : decode cX7_type 42 = .ok (.iadd, 1) := by decide +kernel
theorem dX7_type_43 : decode cX7_type 43 = .ok (.putfield 160, 3) := by decide +kernel
theorem dX7_type_46 : decode cX7_type 46 = .ok (.aload_n 0, 1) := by decide +kernel
theorem dX7_type_47 : decode cX7_type 47 = .ok (.getfield 160, 3) := by decide +kernel
theorem dX7_type_50 : decode cX7_type 50 = .ok (.ireturn, 1) := by decide +kernel
theorem dX7_clearText_0 : decode cX7_clearText 0 = .ok (.aload_n 0, 1) := by decide +kernel
theorem dX7_clearText_1 : decode cX7_clearText 1 = .ok (.getfield 160, 3) := by decide +kernel
theorem dX7_clearText_4 : decode cX7_clearText 4 = .ok (.istore_n 1, 1) := by decide +kernel
theorem dX7_clearText_5 : decode cX7_clearText 5 = .ok (.aload_n 0, 1) := by decide +kernel
theorem dX7_clearText_6 : decode cX7_clearText 6 = .ok (.iconst 0, 1) := by decide +kernel
theorem dX7_clearText_7 : decode cX7_clearText 7 = .ok (.putfield 160, 3) := by decide +kernel
theorem dX7_clearText_10 : decode cX7_clearText 10 = .ok (.iload_n 1, 1) := by decide +kernel
theorem dX7_clearText_11 : decode cX7_clearText 11 = .ok (.ireturn, 1) := by decide +kernel
theorem dX7_isAt_0 : decode cX7_isAt 0 = .ok (.aload_n 0, 1) := by decide +kernel
theorem dX7_isAt_1 : decode cX7_isAt 1 = .ok (.getfield 163, 3) := by decide +kernel
theorem dX7_isAt_4 : decode cX7_isAt 4 = .ok (.aload_n 0, 1) := by decide +kernel
theorem dX7_isAt_5 : decode cX7_isAt 5 = .ok (.getfield 160, 3) := by decide +kernel
theorem dX7_isAt_8 : decode cX7_isAt 8 = .ok (.if_icmp .ge 24, 3) := by decide +kernel
theorem dX7_isAt_11 : decode cX7_isAt 11 = .ok (.aload_n 0, 1) := by decide +kernel
theorem dX7_isAt_12 : decode cX7_isAt 12 = .ok (.getfield 19, 3) := by decide +kernel
theorem dX7_isAt_15 : decode cX7_isAt 15 = .ok (.aload_n 0, 1) := by decide +kernel
theorem dX7_isAt_16 : decode cX7_isAt 16 = .ok (.getfield 163, 3) := by decide +kernel
theorem dX7_isAt_19 : decode cX7_isAt 19 = .ok (.iaload, 1) := by decide +kernel
theorem dX7_isAt_20 : decode cX7_isAt 20 = .ok (.iload_n 1, 1) := by decide +kernel
theorem dX7_isAt_21 : decode cX7_isAt 21 = .ok (.iload_n 2, 1) := by decide +kernel
theorem dX7_isAt_22 : decode cX7_isAt 22 = .ok (.invokestatic 45, 3) := by decide +kernel
theorem dX7_isAt_25 : decode cX7_isAt 25 = .ok (.ifCond .eq 7, 3) := by decide +kernel
theorem dX7_isAt_28 : decode cX7_isAt 28 = .ok (.iconst 1, 1) := by decide +kernel
theorem dX7_isAt_29 : decode cX7_isAt 29 = .ok (.goto 4, 3) := by decide +kernel
theorem dX7_isAt_32 : decode cX7_isAt 32 = .ok (.iconst 0, 1) := by decide +kernel
theorem dX7_isAt_33 : decode cX7_isAt 33 = .ok (.ireturn, 1) := by decide +kernel
theorem dX7_sign_0 : decode cX7_sign 0 = .ok (.aload_n 0, 1) := by decide +kernel
theorem dX7_sign_1 : decode cX7_sign 1 = .ok (.iload_n 1, 1) := by decide +kernel
theorem dX7_sign_2 : decode cX7_sign 2 = .ok (.iload_n 1, 1) := by decide +kernel
theorem dX7_sign_3 : decode cX7_sign 3 = .ok (.invokevirtual 166, 3) := by decide +kernel
theorem dX7_sign_6 : decode cX7_sign 6 = .ok (.istore_n 2, 1) := by decide +kernel
theorem dX7_sign_7 : decode cX7_sign 7 = .ok (.aload_n 0, 1) := by decide +kernel
theorem dX7_sign_8 : decode cX7_sign 8 = .ok (.dup, 1) := by decide +kernel
theorem dX7_sign_9 : decode cX7_sign 9 = .ok (.getfield 163, 3) := by decide +kernel
theorem dX7_sign_12 : decode cX7_sign 12 = .ok (.iload_n 2, 1) := by decide +kernel
theorem dX7_sign_13 : decode cX7_sign 13 = .ok (.ifCond .eq 7, 3) := by decide +kernel
theorem dX7_sign_16 : decode cX7_sign 16 = .ok (.iconst 1, 1) := by decide +kernel
theorem dX7_sign_17 : decode cX7_sign 17 = .ok (.goto 4, 3) := by decide +kernel
theorem dX7_sign_20 : decode cX7_sign 20 = .ok (.iconst 0, 1) := by decide +kernel
theorem dX7_sign_21 : decode cX7_sign 21 = .ok (.iadd, 1) := by decide +kernel
theorem dX7_sign_22 : decode cX7_sign 22 = .ok (.putfield 163, 3) := by decide +kernel
theorem dX7_sign_25 : decode cX7_sign 25 = .ok (.iload_n 2, 1) := by decide +kernel
theorem dX7_sign_26 : decode cX7_sign 26 = .ok (.ireturn, 1) := by decide +kernel
theorem dX7_numbered_0 : decode cX7_numbered 0 = .ok (.aload_n 0, 1) := by decide +kernel
theorem dX7_numbered_1 : decode cX7_numbered 1 = .ok (.getfield 163, 3) := by decide +kernel
theorem dX7_numbered_4 : decode cX7_numbered 4 = .ok (.istore_n 2, 1) := by decide +kernel
theorem dX7_numbered_5 : decode cX7_numbered 5 = .ok (.aload_n 0, 1) := by decide +kernel
theorem dX7_numbered_6 : decode cX7_numbered 6 = .ok (.getfield 34, 3) := by decide +kernel
theorem dX7_numbered_9 : decode cX7_numbered 9 = .ok (.iload_n 1, 1) := by decide +kernel
theorem dX7_numbered_10 : decode cX7_numbered 10 = .ok (.iconst 0, 1) := by decide +kernel
theorem dX7_numbered_11 : decode cX7_numbered 11 = .ok (.iastore, 1) := by decide +kernel
theorem dX7_numbered_12 : decode cX7_numbered 12 = .ok (.aload_n 0, 1) := by decide +kernel
theorem dX7_numbered_13 : decode cX7_numbered 13 = .ok (.bipush 48, 2) := by decide +kernel
theorem dX7_numbered_15 : decode cX7_numbered 15 = .ok (.bipush 57, 2) := by decide +kernel
theorem dX7_numbered_17 : decode cX7_numbered 17 = .ok (.invokevirtual 166, 3) := by decide +kernel
theorem dX7_numbered_20 : decode cX7_numbered 20 = .ok (.ifCond .eq 54, 3) := by decide +kernel
theorem dX7_numbered_23 : decode cX7_numbered 23 = .ok (.aload_n 0, 1) := by decide +kernel
theorem dX7_numbered_24 : decode cX7_numbered 24 = .ok (.getfield 163, 3) := by decide +kernel
theorem dX7_numbered_27 : decode cX7_numbered 27 = .ok (.iload_n 2, 1) := by decide +kernel
theorem dX7_numbered_28 : decode cX7_numbered 28 = .ok (.isub, 1) := by decide +kernel
theorem dX7_numbered_29 : decode cX7_numbered 29 = .ok (.iconst 2, 1) := by decide +kernel
theorem dX7_numbered_30 : decode cX7_numbered 30 = .ok (.if_icmp .ge 44, 3) := by decide +kernel
theorem dX7_numbered_33 : decode cX7_numbered 33 = .ok (.aload_n 0, 1) := by decide +kernel
theorem dX7_numbered_34 : decode cX7_numbered 34 = .ok (.getfield 34, 3) := by decide +kernel
theorem dX7_numbered_37 : decode cX7_numbered 37 = .ok (.iload_n 1, 1) := by decide +kernel
theorem dX7_numbered_38 : decode cX7_numbered 38 = .ok (.bipush 10, 2) := by decide +kernel
theorem dX7_numbered_40 : decode cX7_numbered 40 = .ok (.aload_n 0, 1) := by decide +kernel
theorem dX7_numbered_41 : decode cX7_numbered 41 = .ok (.getfield 34, 3) := by decide +kernel
theorem dX7_numbered_44 : decode cX7_numbered 44 = .ok (.iload_n 1, 1) := by decide +kernel
theorem dX7_numbered_45 : decode cX7_numbered 45 = .ok (.iaload, 1) := by decide +kernel
theorem dX7_numbered_46 : decode cX7_numbered 46 = .ok (.imul, 1) := by decide +kernel
theorem dX7_numbered_47 : decode cX7_numbered 47 = .ok (.aload_n 0, 1) := by decide +kernel
theorem dX7_numbered_48 : decode cX7_numbered 48 = .ok (.getfield 19, 3) := by decide +kernel
theorem dX7_numbered_51 : decode cX7_numbered 51 = .ok (.aload_n 0, 1) := by decide +kernel
theorem dX7_numbered_52 : decode cX7_numbered 52 = .ok (.getfield 163, 3) := by decide +kernel
theorem dX7_numbered_55 : decode cX7_numbered 55 = .ok (.iaload, 1) := by decide +kernel
theorem dX7_numbered_56 : decode cX7_numbered 56 = .ok (.iadd, 1) := by decide +kernel
theorem dX7_numbered_57 : decode cX7_numbered 57 = .ok (.bipush 48, 2) := by decide +kernel
theorem dX7_numbered_59 : decode cX7_numbered 59 = .ok (.isub, 1) := by decide +kernel
theorem dX7_numbered_60 : decode cX7_numbered 60 = .ok (.iastore, 1) := by decide +kernel
theorem dX7_numbered_61 : decode cX7_numbered 61 = .ok (.aload_n 0, 1) := by decide +kernel
theorem dX7_numbered_62 : decode cX7_numbered 62 = .ok (.dup, 1) := by decide +kernel
theorem dX7_numbered_63 : decode cX7_numbered 63 = .ok (.getfield 163, 3) := by decide +kernel
theorem dX7_numbered_66 : decode cX7_numbered 66 = .ok (.iconst 1, 1) := by decide +kernel
theorem dX7_numbered_67 : decode cX7_numbered 67 = .ok (.iadd, 1) := by decide +kernel
theorem dX7_numbered_68 : decode cX7_numbered 68 = .ok (.putfield 163, 3) := by decide +kernel
theorem dX7_numbered_71 : decode cX7_numbered 71 = .ok (.goto (-59), 3) := by decide +kernel
theorem dX7_numbered_74 : decode cX7_numbered 74 = .ok (.aload_n 0, 1) := by decide +kernel
theorem dX7_numbered_75 : decode cX7_numbered 75 = .ok (.getfield 163, 3) := by decide +kernel
theorem dX7_numbered_78 : decode cX7_numbered 78 = .ok (.iload_n 2, 1) := by decide +kernel
theorem dX7_numbered_79 : decode cX7_numbered 79 = .ok (.if_icmp .le 7, 3) := by decide +kernel
theorem dX7_numbered_82 : decode cX7_numbered 82 = .ok (.iconst 1, 1) := by decide +kernel
theorem dX7_numbered_83 : decode cX7_numbered 83 = .ok (.goto 4, 3) := by decide +kernel
theorem dX7_numbered_86 : decode cX7_numbered 86 = .ok (.iconst 0, 1) := by decide +kernel
theorem dX7_numbered_87 : decode cX7_numbered 87 = .ok (.ireturn, 1) := by decide +kernel
theorem dX7_numbersOf_0 : decode cX7_numbersOf 0 = .ok (.iload_n 0, 1) := by decide +kernel
theorem dX7_numbersOf_1 : decode cX7_numbersOf 1 = .ok (.tableswitch 123 97 121 #[115, 123, 119, 123, 123, 123, 123, 123, 123, 123, 119, 123, 123, 119, 123, 117, 123, 123, 123, 123, 115, 121, 123, 123, 119], 115) := by decide +kernel
theorem dX7_numbersOf_116 : decode cX7_numbersOf 116 = .ok (.iconst 3, 1) := by decide +kernel
theorem dX7_numbersOf_117 : decode cX7_numbersOf 117 = .ok (.ireturn, 1) := by decide +kernel
theorem dX7_numbersOf_118 : decode cX7_numbersOf 118 = .ok (.iconst 2, 1) := by decide +kernel
theorem dX7_numbersOf_119 : decode cX7_numbersOf 119 = .ok (.ireturn, 1) := by decide +kernel
theorem dX7_numbersOf_120 : decode cX7_numbersOf 120 = .ok (.iconst 1, 1) := by decide +kernel
theorem dX7_numbersOf_121 : decode cX7_numbersOf 121 = .ok (.ireturn, 1) := by decide +kernel
theorem dX7_numbersOf_122 : decode cX7_numbersOf 122 = .ok (.iconst 0, 1) := by decide +kernel
theorem dX7_numbersOf_123 : decode cX7_numbersOf 123 = .ok (.ireturn, 1) := by decide +kernel
theorem dX7_numbersOf_124 : decode cX7_numbersOf 124 = .ok (.ldc 60, 2) := by decide +kernel
theorem dX7_numbersOf_126 : decode cX7_numbersOf 126 = .ok (.ireturn, 1) := by decide +kernel
theorem dX7_parses_0 : decode cX7_parses 0 = .ok (.aload_n 0, 1) := by decide +kernel
theorem dX7_parses_1 : decode cX7_parses 1 = .ok (.aload_n 0, 1) := by decide +kernel
theorem dX7_parses_2 : decode cX7_parses 2 = .ok (.bipush 33, 2) := by decide +kernel
theorem dX7_parses_4 : decode cX7_parses 4 = .ok (.bipush 126, 2) := by decide +kernel
theorem dX7_parses_6 : decode cX7_parses 6 = .ok (.invokevirtual 166, 3) := by decide +kernel
theorem dX7_parses_9 : decode cX7_parses 9 = .ok (.ifCond .eq 15, 3) := by decide +kernel
theorem dX7_parses_12 : decode cX7_parses 12 = .ok (.aload_n 0, 1) := by decide +kernel
theorem dX7_parses_13 : decode cX7_parses 13 = .ok (.getfield 19, 3) := by decide +kernel
theorem dX7_parses_16 : decode cX7_parses 16 = .ok (.aload_n 0, 1) := by decide +kernel
theorem dX7_parses_17 : decode cX7_parses 17 = .ok (.getfield 163, 3) := by decide +kernel
theorem dX7_parses_20 : decode cX7_parses 20 = .ok (.iaload, 1) := by decide +kernel
theorem dX7_parses_21 : decode cX7_parses 21 = .ok (.goto 4, 3) := by decide +kernel
theorem dX7_parses_24 : decode cX7_parses 24 = .ok (.iconst 0, 1) := by decide +kernel
theorem dX7_parses_25 : decode cX7_parses 25 = .ok (.putfield 169, 3) := by decide +kernel
theorem dX7_parses_28 : decode cX7_parses 28 = .ok (.aload_n 0, 1) := by decide +kernel
theorem dX7_parses_29 : decode cX7_parses 29 = .ok (.getfield 169, 3) := by decide +kernel
theorem dX7_parses_32 : decode cX7_parses 32 = .ok (.invokestatic 172, 3) := by decide +kernel
theorem dX7_parses_35 : decode cX7_parses 35 = .ok (.istore_n 1, 1) := by decide +kernel
theorem dX7_parses_36 : decode cX7_parses 36 = .ok (.iload_n 1, 1) := by decide +kernel
theorem dX7_parses_37 : decode cX7_parses 37 = .ok (.ifCond .ge 5, 3) := by decide +kernel
theorem dX7_parses_40 : decode cX7_parses 40 = .ok (.iconst 0, 1) := by decide +kernel
theorem dX7_parses_41 : decode cX7_parses 41 = .ok (.ireturn, 1) := by decide +kernel
theorem dX7_parses_42 : decode cX7_parses 42 = .ok (.aload_n 0, 1) := by decide +kernel
theorem dX7_parses_43 : decode cX7_parses 43 = .ok (.dup, 1) := by decide +kernel
theorem dX7_parses_44 : decode cX7_parses 44 = .ok (.getfield 163, 3) := by decide +kernel
theorem dX7_parses_47 : decode cX7_parses 47 = .ok (.iconst 1, 1) := by decide +kernel
theorem dX7_parses_48 : decode cX7_parses 48 = .ok (.iadd, 1) := by decide +kernel
theorem dX7_parses_49 : decode cX7_parses 49 = .ok (.putfield 163, 3) := by decide +kernel
theorem dX7_parses_52 : decode cX7_parses 52 = .ok (.iload_n 1, 1) := by decide +kernel
theorem dX7_parses_53 : decode cX7_parses 53 = .ok (.ifCond .eq 11, 3) := by decide +kernel
theorem dX7_parses_56 : decode cX7_parses 56 = .ok (.aload_n 0, 1) := by decide +kernel
theorem dX7_parses_57 : decode cX7_parses 57 = .ok (.iconst 0, 1) := by decide +kernel
theorem dX7_parses_58 : decode cX7_parses 58 = .ok (.invokevirtual 175, 3) := by decide +kernel
theorem dX7_parses_61 : decode cX7_parses 61 = .ok (.ifCond .eq 7, 3) := by decide +kernel
theorem dX7_parses_64 : decode cX7_parses 64 = .ok (.iconst 1, 1) := by decide +kernel
theorem dX7_parses_65 : decode cX7_parses 65 = .ok (.goto 4, 3) := by decide +kernel
theorem dX7_parses_68 : decode cX7_parses 68 = .ok (.iconst 0, 1) := by decide +kernel
theorem dX7_parses_69 : decode cX7_parses 69 = .ok (.istore_n 2, 1) := by decide +kernel
theorem dX7_parses_70 : decode cX7_parses 70 = .ok (.iconst 1, 1) := by decide +kernel
theorem dX7_parses_71 : decode cX7_parses 71 = .ok (.istore_n 3, 1) := by decide +kernel
theorem dX7_parses_72 : decode cX7_parses 72 = .ok (.iload_n 3, 1) := by decide +kernel
theorem dX7_parses_73 : decode cX7_parses 73 = .ok (.iload_n 1, 1) := by decide +kernel
theorem dX7_parses_74 : decode cX7_parses 74 = .ok (.if_icmp .ge 36, 3) := by decide +kernel
theorem dX7_parses_77 : decode cX7_parses 77 = .ok (.iload_n 2, 1) := by decide +kernel
theorem dX7_parses_78 : decode cX7_parses 78 = .ok (.ifCond .eq 32, 3) := by decide +kernel
theorem dX7_parses_81 : decode cX7_parses 81 = .ok (.aload_n 0, 1) := by decide +kernel
theorem dX7_parses_82 : decode cX7_parses 82 = .ok (.bipush 44, 2) := by decide +kernel
theorem dX7_parses_84 : decode cX7_parses 84 = .ok (.invokevirtual 178, 3) := by decide +kernel
theorem dX7_parses_87 : decode cX7_parses 87 = .ok (.ifCond .eq 15, 3) := by decide +kernel
theorem dX7_parses_90 : decode cX7_parses 90 = .ok (.aload_n 0, 1) := by decide +kernel
theorem dX7_parses_91 : decode cX7_parses 91 = .ok (.iload_n 3, 1) := by decide +kernel
theorem dX7_parses_92 : decode cX7_parses 92 = .ok (.invokevirtual 175, 3) := by decide +kernel
theorem dX7_parses_95 : decode cX7_parses 95 = .ok (.ifCond .eq 7, 3) := by decide +kernel
theorem dX7_parses_98 : decode cX7_parses 98 = .ok (.iconst 1, 1) := by decide +kernel
theorem dX7_parses_99 : decode cX7_parses 99 = .ok (.goto 4, 3) := by decide +kernel
theorem dX7_parses_102 : decode cX7_parses 102 = .ok (.iconst 0, 1) := by decide +kernel
theorem dX7_parses_103 : decode cX7_parses 103 = .ok (.istore_n 2, 1) := by decide +kernel
theorem dX7_parses_104 : decode cX7_parses 104 = .ok (.iinc 3 1, 3) := by decide +kernel
theorem dX7_parses_107 : decode cX7_parses 107 = .ok (.goto (-35), 3) := by decide +kernel
theorem dX7_parses_110 : decode cX7_parses 110 = .ok (.iload_n 2, 1) := by decide +kernel
theorem dX7_parses_111 : decode cX7_parses 111 = .ok (.ifCond .eq 16, 3) := by decide +kernel
theorem dX7_parses_114 : decode cX7_parses 114 = .ok (.aload_n 0, 1) := by decide +kernel
theorem dX7_parses_115 : decode cX7_parses 115 = .ok (.bipush 59, 2) := by decide +kernel
theorem dX7_parses_117 : decode cX7_parses 117 = .ok (.invokevirtual 178, 3) := by decide +kernel
theorem dX7_parses_120 : decode cX7_parses 120 = .ok (.ifCond .eq 7, 3) := by decide +kernel
theorem dX7_parses_123 : decode cX7_parses 123 = .ok (.iconst 1, 1) := by decide +kernel
theorem dX7_parses_124 : decode cX7_parses 124 = .ok (.goto 4, 3) := by decide +kernel
theorem dX7_parses_127 : decode cX7_parses 127 = .ok (.iconst 0, 1) := by decide +kernel
theorem dX7_parses_128 : decode cX7_parses 128 = .ok (.ireturn, 1) := by decide +kernel
theorem dX7_does_0 : decode cX7_does 0 = .ok (.aload_n 0, 1) := by decide +kernel
theorem dX7_does_1 : decode cX7_does 1 = .ok (.getfield 169, 3) := by decide +kernel
theorem dX7_does_4 : decode cX7_does 4 = .ok (.tableswitch 217 97 121 #[133, 217, 170, 217, 217, 217, 217, 217, 217, 217, 181, 217, 217, 192, 217, 116, 217, 217, 217, 217, 133, 217, 217, 217, 192], 116) := by decide +kernel
theorem dX7_does_120 : decode cX7_does 120 = .ok (.aload_n 0, 1) := by decide +kernel
theorem dX7_does_121 : decode cX7_does 121 = .ok (.aload_n 0, 1) := by decide +kernel
theorem dX7_does_122 : decode cX7_does 122 = .ok (.getfield 34, 3) := by decide +kernel
theorem dX7_does_125 : decode cX7_does 125 = .ok (.iconst 0, 1) := by decide +kernel
theorem dX7_does_126 : decode cX7_does 126 = .ok (.iaload, 1) := by decide +kernel
theorem dX7_does_127 : decode cX7_does 127 = .ok (.aload_n 0, 1) := by decide +kernel
theorem dX7_does_128 : decode cX7_does 128 = .ok (.getfield 34, 3) := by decide +kernel
theorem dX7_does_131 : decode cX7_does 131 = .ok (.iconst 1, 1) := by decide +kernel
theorem dX7_does_132 : decode cX7_does 132 = .ok (.iaload, 1) := by decide +kernel
theorem dX7_does_133 : decode cX7_does 133 = .ok (.invokevirtual 181, 3) := by decide +kernel
theorem dX7_does_136 : decode cX7_does 136 = .ok (.ireturn, 1) := by decide +kernel
theorem dX7_does_137 : decode cX7_does 137 = .ok (.aload_n 0, 1) := by decide +kernel
theorem dX7_does_138 : decode cX7_does 138 = .ok (.aload_n 0, 1) := by decide +kernel
theorem dX7_does_139 : decode cX7_does 139 = .ok (.getfield 34, 3) := by decide +kernel
theorem dX7_does_142 : decode cX7_does 142 = .ok (.iconst 0, 1) := by decide +kernel
theorem dX7_does_143 : decode cX7_does 143 = .ok (.iaload, 1) := by decide +kernel
theorem dX7_does_144 : decode cX7_does 144 = .ok (.aload_n 0, 1) := by decide +kernel
theorem dX7_does_145 : decode cX7_does 145 = .ok (.getfield 34, 3) := by decide +kernel
theorem dX7_does_148 : decode cX7_does 148 = .ok (.iconst 1, 1) := by decide +kernel
theorem dX7_does_149 : decode cX7_does 149 = .ok (.iaload, 1) := by decide +kernel
theorem dX7_does_150 : decode cX7_does 150 = .ok (.aload_n 0, 1) := by decide +kernel
theorem dX7_does_151 : decode cX7_does 151 = .ok (.getfield 169, 3) := by decide +kernel
theorem dX7_does_154 : decode cX7_does 154 = .ok (.bipush 117, 2) := by decide +kernel
theorem dX7_does_156 : decode cX7_does 156 = .ok (.if_icmp .ne 7, 3) := by decide +kernel
theorem dX7_does_159 : decode cX7_does 159 = .ok (.iconst 1, 1) := by decide +kernel
theorem dX7_does_160 : decode cX7_does 160 = .ok (.goto 4, 3) := by decide +kernel
theorem dX7_does_163 : decode cX7_does 163 = .ok (.iconst 0, 1) := by decide +kernel
theorem dX7_does_164 : decode cX7_does 164 = .ok (.aload_n 0, 1) := by decide +kernel
theorem dX7_does_165 : decode cX7_does 165 = .ok (.getfield 34, 3) := by decide +kernel
theorem dX7_does_168 : decode cX7_does 168 = .ok (.iconst 2, 1) := by decide +kernel
theorem dX7_does_169 : decode cX7_does 169 = .ok (.iaload, 1) := by decide +kernel
theorem dX7_does_170 : decode cX7_does 170 = .ok (.invokevirtual 184, 3) := by decide +kernel
theorem dX7_does_173 : decode cX7_does 173 = .ok (.ireturn, 1) := by decide +kernel
theorem dX7_does_174 : decode cX7_does 174 = .ok (.aload_n 0, 1) := by decide +kernel
theorem dX7_does_175 : decode cX7_does 175 = .ok (.aload_n 0, 1) := by decide +kernel
theorem dX7_does_176 : decode cX7_does 176 = .ok (.getfield 34, 3) := by decide +kernel
theorem dX7_does_179 : decode cX7_does 179 = .ok (.iconst 0, 1) := by decide +kernel
theorem dX7_does_180 : decode cX7_does 180 = .ok (.iaload, 1) := by decide +kernel
theorem dX7_does_181 : decode cX7_does 181 = .ok (.invokevirtual 188, 3) := by decide +kernel
theorem dX7_does_184 : decode cX7_does 184 = .ok (.ireturn, 1) := by decide +kernel
theorem dX7_does_185 : decode cX7_does 185 = .ok (.aload_n 0, 1) := by decide +kernel
theorem dX7_does_186 : decode cX7_does 186 = .ok (.aload_n 0, 1) := by decide +kernel
theorem dX7_does_187 : decode cX7_does 187 = .ok (.getfield 34, 3) := by decide +kernel
theorem dX7_does_190 : decode cX7_does 190 = .ok (.iconst 0, 1) := by decide +kernel
theorem dX7_does_191 : decode cX7_does 191 = .ok (.iaload, 1) := by decide +kernel
theorem dX7_does_192 : decode cX7_does 192 = .ok (.invokevirtual 191, 3) := by decide +kernel
theorem dX7_does_195 : decode cX7_does 195 = .ok (.ireturn, 1) := by decide +kernel
theorem dX7_does_196 : decode cX7_does 196 = .ok (.aload_n 0, 1) := by decide +kernel
theorem dX7_does_197 : decode cX7_does 197 = .ok (.aload_n 0, 1) := by decide +kernel
theorem dX7_does_198 : decode cX7_does 198 = .ok (.getfield 34, 3) := by decide +kernel
theorem dX7_does_201 : decode cX7_does 201 = .ok (.iconst 0, 1) := by decide +kernel
theorem dX7_does_202 : decode cX7_does 202 = .ok (.iaload, 1) := by decide +kernel
theorem dX7_does_203 : decode cX7_does 203 = .ok (.aload_n 0, 1) := by decide +kernel
theorem dX7_does_204 : decode cX7_does 204 = .ok (.getfield 169, 3) := by decide +kernel
theorem dX7_does_207 : decode cX7_does 207 = .ok (.bipush 121, 2) := by decide +kernel
theorem dX7_does_209 : decode cX7_does 209 = .ok (.if_icmp .ne 7, 3) := by decide +kernel
theorem dX7_does_212 : decode cX7_does 212 = .ok (.iconst 1, 1) := by decide +kernel
theorem dX7_does_213 : decode cX7_does 213 = .ok (.goto 4, 3) := by decide +kernel
theorem dX7_does_216 : decode cX7_does 216 = .ok (.iconst 0, 1) := by decide +kernel
theorem dX7_does_217 : decode cX7_does 217 = .ok (.invokevirtual 194, 3) := by decide +kernel
theorem dX7_does_220 : decode cX7_does 220 = .ok (.ireturn, 1) := by decide +kernel
theorem dX7_does_221 : decode cX7_does 221 = .ok (.aload_n 0, 1) := by decide +kernel
theorem dX7_does_222 : decode cX7_does 222 = .ok (.invokevirtual 197, 3) := by decide +kernel
theorem dX7_does_225 : decode cX7_does 225 = .ok (.ireturn, 1) := by decide +kernel
theorem dX7_plays_0 : decode cX7_plays 0 = .ok (.aload_n 0, 1) := by decide +kernel
theorem dX7_plays_1 : decode cX7_plays 1 = .ok (.iconst 1, 1) := by decide +kernel
theorem dX7_plays_2 : decode cX7_plays 2 = .ok (.putfield 37, 3) := by decide +kernel
theorem dX7_plays_5 : decode cX7_plays 5 = .ok (.aload_n 0, 1) := by decide +kernel
theorem dX7_plays_6 : decode cX7_plays 6 = .ok (.iconst 0, 1) := by decide +kernel
theorem dX7_plays_7 : decode cX7_plays 7 = .ok (.putfield 163, 3) := by decide +kernel
theorem dX7_plays_10 : decode cX7_plays 10 = .ok (.aload_n 0, 1) := by decide +kernel
theorem dX7_plays_11 : decode cX7_plays 11 = .ok (.iconst 0, 1) := by decide +kernel
theorem dX7_plays_12 : decode cX7_plays 12 = .ok (.putfield 200, 3) := by decide +kernel
theorem dX7_plays_15 : decode cX7_plays 15 = .ok (.aload_n 0, 1) := by decide +kernel
theorem dX7_plays_16 : decode cX7_plays 16 = .ok (.iconst 0, 1) := by decide +kernel
theorem dX7_plays_17 : decode cX7_plays 17 = .ok (.putfield 203, 3) := by decide +kernel
theorem dX7_plays_20 : decode cX7_plays 20 = .ok (.iconst 1, 1) := by decide +kernel
theorem dX7_plays_21 : decode cX7_plays 21 = .ok (.istore_n 1, 1) := by decide +kernel
theorem dX7_plays_22 : decode cX7_plays 22 = .ok (.aload_n 0, 1) := by decide +kernel
theorem dX7_plays_23 : decode cX7_plays 23 = .ok (.getfield 163, 3) := by decide +kernel
theorem dX7_plays_26 : decode cX7_plays 26 = .ok (.aload_n 0, 1) := by decide +kernel
theorem dX7_plays_27 : decode cX7_plays 27 = .ok (.getfield 160, 3) := by decide +kernel
theorem dX7_plays_30 : decode cX7_plays 30 = .ok (.if_icmp .ge 94, 3) := by decide +kernel
theorem dX7_plays_33 : decode cX7_plays 33 = .ok (.iload_n 1, 1) := by decide +kernel
theorem dX7_plays_34 : decode cX7_plays 34 = .ok (.ifCond .eq 90, 3) := by decide +kernel
theorem dX7_plays_37 : decode cX7_plays 37 = .ok (.aload_n 0, 1) := by decide +kernel
theorem dX7_plays_38 : decode cX7_plays 38 = .ok (.aload_n 0, 1) := by decide +kernel
theorem dX7_plays_39 : decode cX7_plays 39 = .ok (.getfield 163, 3) := by decide +kernel
theorem dX7_plays_42 : decode cX7_plays 42 = .ok (.putfield 200, 3) := by decide +kernel
theorem dX7_plays_45 : decode cX7_plays 45 = .ok (.aload_n 0, 1) := by decide +kernel
theorem dX7_plays_46 : decode cX7_plays 46 = .ok (.invokevirtual 206, 3) := by decide +kernel
theorem dX7_plays_49 : decode cX7_plays 49 = .ok (.istore_n 2, 1) := by decide +kernel
theorem dX7_plays_50 : decode cX7_plays 50 = .ok (.iload_n 2, 1) := by decide +kernel
theorem dX7_plays_51 : decode cX7_plays 51 = .ok (.ifCond .eq 10, 3) := by decide +kernel
theorem dX7_plays_54 : decode cX7_plays 54 = .ok (.aload_n 0, 1) := by decide +kernel
theorem dX7_plays_55 : decode cX7_plays 55 = .ok (.invokevirtual 209, 3) := by decide +kernel
theorem dX7_plays_58 : decode cX7_plays 58 = .ok (.goto 4, 3) := by decide +kernel
theorem dX7_plays_61 : decode cX7_plays 61 = .ok (.iconst 0, 1) := by decide +kernel
theorem dX7_plays_62 : decode cX7_plays 62 = .ok (.istore_n 3, 1) := by decide +kernel
theorem dX7_plays_63 : decode cX7_plays 63 = .ok (.iload_n 2, 1) := by decide +kernel
theorem dX7_plays_64 : decode cX7_plays 64 = .ok (.ifCond .eq 11, 3) := by decide +kernel
theorem dX7_plays_67 : decode cX7_plays 67 = .ok (.iload_n 3, 1) := by decide +kernel
theorem dX7_plays_68 : decode cX7_plays 68 = .ok (.ifCond .lt 7, 3) := by decide +kernel
theorem dX7_plays_71 : decode cX7_plays 71 = .ok (.iconst 1, 1) := by decide +kernel
theorem dX7_plays_72 : decode cX7_plays 72 = .ok (.goto 4, 3) := by decide +kernel
theorem dX7_plays_75 : decode cX7_plays 75 = .ok (.iconst 0, 1) := by decide +kernel
theorem dX7_plays_76 : decode cX7_plays 76 = .ok (.istore_n 1, 1) := by decide +kernel
theorem dX7_plays_77 : decode cX7_plays 77 = .ok (.aload_n 0, 1) := by decide +kernel
theorem dX7_plays_78 : decode cX7_plays 78 = .ok (.iload_n 2, 1) := by decide +kernel
theorem dX7_plays_79 : decode cX7_plays 79 = .ok (.ifCond .eq 7, 3) := by decide +kernel
theorem dX7_plays_82 : decode cX7_plays 82 = .ok (.iconst 2, 1) := by decide +kernel
theorem dX7_plays_83 : decode cX7_plays 83 = .ok (.goto 4, 3) := by decide +kernel
theorem dX7_plays_86 : decode cX7_plays 86 = .ok (.iconst 1, 1) := by decide +kernel
theorem dX7_plays_87 : decode cX7_plays 87 = .ok (.putfield 212, 3) := by decide +kernel
theorem dX7_plays_90 : decode cX7_plays 90 = .ok (.aload_n 0, 1) := by decide +kernel
theorem dX7_plays_91 : decode cX7_plays 91 = .ok (.iload_n 2, 1) := by decide +kernel
theorem dX7_plays_92 : decode cX7_plays 92 = .ok (.ifCond .eq 7, 3) := by decide +kernel
theorem dX7_plays_95 : decode cX7_plays 95 = .ok (.iload_n 3, 1) := by decide +kernel
theorem dX7_plays_96 : decode cX7_plays 96 = .ok (.goto 12, 3) := by decide +kernel
theorem dX7_plays_99 : decode cX7_plays 99 = .ok (.aload_n 0, 1) := by decide +kernel
theorem dX7_plays_100 : decode cX7_plays 100 = .ok (.getfield 163, 3) := by decide +kernel
theorem dX7_plays_103 : decode cX7_plays 103 = .ok (.aload_n 0, 1) := by decide +kernel
theorem dX7_plays_104 : decode cX7_plays 104 = .ok (.getfield 200, 3) := by decide +kernel
theorem dX7_plays_107 : decode cX7_plays 107 = .ok (.isub, 1) := by decide +kernel
theorem dX7_plays_108 : decode cX7_plays 108 = .ok (.putfield 215, 3) := by decide +kernel
theorem dX7_plays_111 : decode cX7_plays 111 = .ok (.aload_n 0, 1) := by decide +kernel
theorem dX7_plays_112 : decode cX7_plays 112 = .ok (.dup, 1) := by decide +kernel
theorem dX7_plays_113 : decode cX7_plays 113 = .ok (.getfield 203, 3) := by decide +kernel
theorem dX7_plays_116 : decode cX7_plays 116 = .ok (.iconst 1, 1) := by decide +kernel
theorem dX7_plays_117 : decode cX7_plays 117 = .ok (.iadd, 1) := by decide +kernel
theorem dX7_plays_118 : decode cX7_plays 118 = .ok (.putfield 203, 3) := by decide +kernel
theorem dX7_plays_121 : decode cX7_plays 121 = .ok (.goto (-99), 3) := by decide +kernel
theorem dX7_plays_124 : decode cX7_plays 124 = .ok (.aload_n 0, 1) := by decide +kernel
theorem dX7_plays_125 : decode cX7_plays 125 = .ok (.iconst 0, 1) := by decide +kernel
theorem dX7_plays_126 : decode cX7_plays 126 = .ok (.putfield 37, 3) := by decide +kernel
theorem dX7_plays_129 : decode cX7_plays 129 = .ok (.iload_n 1, 1) := by decide +kernel
theorem dX7_plays_130 : decode cX7_plays 130 = .ok (.ireturn, 1) := by decide +kernel
theorem dX7_fault_0 : decode cX7_fault 0 = .ok (.iload_n 1, 1) := by decide +kernel
theorem dX7_fault_1 : decode cX7_fault 1 = .ok (.iconst 0, 1) := by decide +kernel
theorem dX7_fault_2 : decode cX7_fault 2 = .ok (.iconst 2, 1) := by decide +kernel
theorem dX7_fault_3 : decode cX7_fault 3 = .ok (.invokestatic 45, 3) := by decide +kernel
theorem dX7_fault_6 : decode cX7_fault 6 = .ok (.ifCond .ne 6, 3) := by decide +kernel
theorem dX7_fault_9 : decode cX7_fault 9 = .ok (.ldc 96, 2) := by decide +kernel
theorem dX7_fault_11 : decode cX7_fault 11 = .ok (.ireturn, 1) := by decide +kernel
theorem dX7_fault_12 : decode cX7_fault 12 = .ok (.aload_n 0, 1) := by decide +kernel
theorem dX7_fault_13 : decode cX7_fault 13 = .ok (.getfield 7, 3) := by decide +kernel
theorem dX7_fault_16 : decode cX7_fault 16 = .ok (.aload_n 0, 1) := by decide +kernel
theorem dX7_fault_17 : decode cX7_fault 17 = .ok (.getfield 16, 3) := by decide +kernel
theorem dX7_fault_20 : decode cX7_fault 20 = .ok (.invokestatic 218, 3) := by decide +kernel
theorem dX7_fault_23 : decode cX7_fault 23 = .ok (.aload_n 0, 1) := by decide +kernel
theorem dX7_fault_24 : decode cX7_fault 24 = .ok (.invokevirtual 222, 3) := by decide +kernel
theorem dX7_fault_27 : decode cX7_fault 27 = .ok (.istore_n 2, 1) := by decide +kernel
theorem dX7_fault_28 : decode cX7_fault 28 = .ok (.aload_n 0, 1) := by decide +kernel
theorem dX7_fault_29 : decode cX7_fault 29 = .ok (.getfield 16, 3) := by decide +kernel
theorem dX7_fault_32 : decode cX7_fault 32 = .ok (.aload_n 0, 1) := by decide +kernel
theorem dX7_fault_33 : decode cX7_fault 33 = .ok (.getfield 7, 3) := by decide +kernel
theorem dX7_fault_36 : decode cX7_fault 36 = .ok (.invokestatic 218, 3) := by decide +kernel
theorem dX7_fault_39 : decode cX7_fault 39 = .ok (.iload_n 2, 1) := by decide +kernel
theorem dX7_fault_40 : decode cX7_fault 40 = .ok (.ifCond .eq 8, 3) := by decide +kernel
theorem dX7_fault_43 : decode cX7_fault 43 = .ok (.ldc 60, 2) := by decide +kernel
theorem dX7_fault_45 : decode cX7_fault 45 = .ok (.goto 30, 3) := by decide +kernel
theorem dX7_fault_48 : decode cX7_fault 48 = .ok (.iload_n 1, 1) := by decide +kernel
theorem dX7_fault_49 : decode cX7_fault 49 = .ok (.ifCond .ne 10, 3) := by decide +kernel
theorem dX7_fault_52 : decode cX7_fault 52 = .ok (.aload_n 0, 1) := by decide +kernel
theorem dX7_fault_53 : decode cX7_fault 53 = .ok (.getfield 200, 3) := by decide +kernel
theorem dX7_fault_56 : decode cX7_fault 56 = .ok (.goto 19, 3) := by decide +kernel
theorem dX7_fault_59 : decode cX7_fault 59 = .ok (.iload_n 1, 1) := by decide +kernel
theorem dX7_fault_60 : decode cX7_fault 60 = .ok (.iconst 1, 1) := by decide +kernel
theorem dX7_fault_61 : decode cX7_fault 61 = .ok (.if_icmp .ne 10, 3) := by decide +kernel
theorem dX7_fault_64 : decode cX7_fault 64 = .ok (.aload_n 0, 1) := by decide +kernel
theorem dX7_fault_65 : decode cX7_fault 65 = .ok (.getfield 212, 3) := by decide +kernel
theorem dX7_fault_68 : decode cX7_fault 68 = .ok (.goto 7, 3) := by decide +kernel
theorem dX7_fault_71 : decode cX7_fault 71 = .ok (.aload_n 0, 1) := by decide +kernel
theorem dX7_fault_72 : decode cX7_fault 72 = .ok (.getfield 215, 3) := by decide +kernel
theorem dX7_fault_75 : decode cX7_fault 75 = .ok (.ireturn, 1) := by decide +kernel
theorem dX7_play_0 : decode cX7_play 0 = .ok (.aload_n 0, 1) := by decide +kernel
theorem dX7_play_1 : decode cX7_play 1 = .ok (.getfield 7, 3) := by decide +kernel
theorem dX7_play_4 : decode cX7_play 4 = .ok (.aload_n 0, 1) := by decide +kernel
theorem dX7_play_5 : decode cX7_play 5 = .ok (.getfield 16, 3) := by decide +kernel
theorem dX7_play_8 : decode cX7_play 8 = .ok (.invokestatic 218, 3) := by decide +kernel
theorem dX7_play_11 : decode cX7_play 11 = .ok (.aload_n 0, 1) := by decide +kernel
theorem dX7_play_12 : decode cX7_play 12 = .ok (.invokevirtual 222, 3) := by decide +kernel
theorem dX7_play_15 : decode cX7_play 15 = .ok (.istore_n 1, 1) := by decide +kernel
theorem dX7_play_16 : decode cX7_play 16 = .ok (.aload_n 0, 1) := by decide +kernel
theorem dX7_play_17 : decode cX7_play 17 = .ok (.getfield 16, 3) := by decide +kernel
theorem dX7_play_20 : decode cX7_play 20 = .ok (.aload_n 0, 1) := by decide +kernel
theorem dX7_play_21 : decode cX7_play 21 = .ok (.getfield 7, 3) := by decide +kernel
theorem dX7_play_24 : decode cX7_play 24 = .ok (.invokestatic 218, 3) := by decide +kernel
theorem dX7_play_27 : decode cX7_play 27 = .ok (.iload_n 1, 1) := by decide +kernel
theorem dX7_play_28 : decode cX7_play 28 = .ok (.ifCond .ne 6, 3) := by decide +kernel
theorem dX7_play_31 : decode cX7_play 31 = .ok (.ldc 101, 2) := by decide +kernel
theorem dX7_play_33 : decode cX7_play 33 = .ok (.ireturn, 1) := by decide +kernel
theorem dX7_play_34 : decode cX7_play 34 = .ok (.aload_n 0, 1) := by decide +kernel
theorem dX7_play_35 : decode cX7_play 35 = .ok (.invokevirtual 98, 3) := by decide +kernel
theorem dX7_play_38 : decode cX7_play 38 = .ok (.aload_n 0, 1) := by decide +kernel
theorem dX7_play_39 : decode cX7_play 39 = .ok (.invokevirtual 222, 3) := by decide +kernel
theorem dX7_play_42 : decode cX7_play 42 = .ok (.ifCond .eq 10, 3) := by decide +kernel
theorem dX7_play_45 : decode cX7_play 45 = .ok (.aload_n 0, 1) := by decide +kernel
theorem dX7_play_46 : decode cX7_play 46 = .ok (.getfield 203, 3) := by decide +kernel
theorem dX7_play_49 : decode cX7_play 49 = .ok (.goto 5, 3) := by decide +kernel
theorem dX7_play_52 : decode cX7_play 52 = .ok (.ldc 60, 2) := by decide +kernel
theorem dX7_play_54 : decode cX7_play 54 = .ok (.ireturn, 1) := by decide +kernel
end
section
theorem dL_law_0 : decode cL_law 0 = .ok (.new 7, 3) := by decide +kernel
theorem dL_law_3 : decode cL_law 3 = .ok (.dup, 1) := by decide +kernel
theorem dL_law_4 : decode cL_law 4 = .ok (.invokespecial 9, 3) := by decide +kernel
theorem dL_law_7 : decode cL_law 7 = .ok (.astore_n 1, 1) := by decide +kernel
theorem dL_law_8 : decode cL_law 8 = .ok (.new 10, 3) := by decide +kernel
theorem dL_law_11 : decode cL_law 11 = .ok (.dup, 1) := by decide +kernel
theorem dL_law_12 : decode cL_law 12 = .ok (.invokespecial 12, 3) := by decide +kernel
theorem dL_law_15 : decode cL_law 15 = .ok (.astore_n 2, 1) := by decide +kernel
theorem dL_law_16 : decode cL_law 16 = .ok (.iconst 0, 1) := by decide +kernel
theorem dL_law_17 : decode cL_law 17 = .ok (.istore_n 3, 1) := by decide +kernel
theorem dL_law_18 : decode cL_law 18 = .ok (.iload_n 3, 1) := by decide +kernel
theorem dL_law_19 : decode cL_law 19 = .ok (.aload_n 0, 1) := by decide +kernel
theorem dL_law_20 : decode cL_law 20 = .ok (.arraylength, 1) := by decide +kernel
theorem dL_law_21 : decode cL_law 21 = .ok (.iconst 5, 1) := by decide +kernel
theorem dL_law_22 : decode cL_law 22 = .ok (.isub, 1) := by decide +kernel
theorem dL_law_23 : decode cL_law 23 = .ok (.if_icmp .gt 801, 3) := by decide +kernel
theorem dL_law_26 : decode cL_law 26 = .ok (.aload_n 0, 1) := by decide +kernel
theorem dL_law_27 : decode cL_law 27 = .ok (.iload_n 3, 1) := by decide +kernel
theorem dL_law_28 : decode cL_law 28 = .ok (.iaload, 1) := by decide +kernel
theorem dL_law_29 : decode cL_law 29 = .ok (.bipush 31, 2) := by decide +kernel
theorem dL_law_31 : decode cL_law 31 = .ok (.iand, 1) := by decide +kernel
theorem dL_law_32 : decode cL_law 32 = .ok (.tableswitch 786 0 23 #[112, 145, 214, 237, 260, 293, 316, 329, 362, 395, 428, 461, 494, 553, 586, 609, 632, 665, 678, 701, 714, 737, 750, 773], 112) := by decide +kernel
theorem dL_law_144 : decode cL_law 144 = .ok (.aload_n 1, 1) := by decide +kernel
theorem dL_law_145 : decode cL_law 145 = .ok (.aload_n 0, 1) := by decide +kernel
theorem dL_law_146 : decode cL_law 146 = .ok (.iload_n 3, 1) := by decide +kernel
theorem dL_law_147 : decode cL_law 147 = .ok (.iconst 1, 1) := by decide +kernel
theorem dL_law_148 : decode cL_law 148 = .ok (.iadd, 1) := by decide +kernel
theorem dL_law_149 : decode cL_law 149 = .ok (.iaload, 1) := by decide +kernel
theorem dL_law_150 : decode cL_law 150 = .ok (.aload_n 0, 1) := by decide +kernel
theorem dL_law_151 : decode cL_law 151 = .ok (.iload_n 3, 1) := by decide +kernel
theorem dL_law_152 : decode cL_law 152 = .ok (.iconst 2, 1) := by decide +kernel
theorem dL_law_153 : decode cL_law 153 = .ok (.iadd, 1) := by decide +kernel
theorem dL_law_154 : decode cL_law 154 = .ok (.iaload, 1) := by decide +kernel
theorem dL_law_155 : decode cL_law 155 = .ok (.invokevirtual 13, 3) := by decide +kernel
theorem dL_law_158 : decode cL_law 158 = .ok (.aload_n 2, 1) := by decide +kernel
theorem dL_law_159 : decode cL_law 159 = .ok (.aload_n 0, 1) := by decide +kernel
theorem dL_law_160 : decode cL_law 160 = .ok (.iload_n 3, 1) := by decide +kernel
theorem dL_law_161 : decode cL_law 161 = .ok (.iconst 1, 1) := by decide +kernel
theorem dL_law_162 : decode cL_law 162 = .ok (.iadd, 1) := by decide +kernel
theorem dL_law_163 : decode cL_law 163 = .ok (.iaload, 1) := by decide +kernel
theorem dL_law_164 : decode cL_law 164 = .ok (.aload_n 0, 1) := by decide +kernel
theorem dL_law_165 : decode cL_law 165 = .ok (.iload_n 3, 1) := by decide +kernel
theorem dL_law_166 : decode cL_law 166 = .ok (.iconst 2, 1) := by decide +kernel
theorem dL_law_167 : decode cL_law 167 = .ok (.iadd, 1) := by decide +kernel
theorem dL_law_168 : decode cL_law 168 = .ok (.iaload, 1) := by decide +kernel
theorem dL_law_169 : decode cL_law 169 = .ok (.invokevirtual 17, 3) := by decide +kernel
theorem dL_law_172 : decode cL_law 172 = .ok (.if_icmp .eq 646, 3) := by decide +kernel
theorem dL_law_175 : decode cL_law 175 = .ok (.iconst 0, 1) := by decide +kernel
theorem dL_law_176 : decode cL_law 176 = .ok (.ireturn, 1) := by decide +kernel
theorem dL_law_177 : decode cL_law 177 = .ok (.aload_n 1, 1) := by decide +kernel
theorem dL_law_178 : decode cL_law 178 = .ok (.aload_n 0, 1) := by decide +kernel
theorem dL_law_179 : decode cL_law 179 = .ok (.iload_n 3, 1) := by decide +kernel
theorem dL_law_180 : decode cL_law 180 = .ok (.iconst 1, 1) := by decide +kernel
theorem dL_law_181 : decode cL_law 181 = .ok (.iadd, 1) := by decide +kernel
theorem dL_law_182 : decode cL_law 182 = .ok (.iaload, 1) := by decide +kernel
theorem dL_law_183 : decode cL_law 183 = .ok (.aload_n 0, 1) := by decide +kernel
theorem dL_law_184 : decode cL_law 184 = .ok (.iload_n 3, 1) := by decide +kernel
theorem dL_law_185 : decode cL_law 185 = .ok (.iconst 2, 1) := by decide +kernel
theorem dL_law_186 : decode cL_law 186 = .ok (.iadd, 1) := by decide +kernel
theorem dL_law_187 : decode cL_law 187 = .ok (.iaload, 1) := by decide +kernel
theorem dL_law_188 : decode cL_law 188 = .ok (.aload_n 0, 1) := by decide +kernel
theorem dL_law_189 : decode cL_law 189 = .ok (.iload_n 3, 1) := by decide +kernel
theorem dL_law_190 : decode cL_law 190 = .ok (.iconst 3, 1) := by decide +kernel
theorem dL_law_191 : decode cL_law 191 = .ok (.iadd, 1) := by decide +kernel
theorem dL_law_192 : decode cL_law 192 = .ok (.iaload, 1) := by decide +kernel
theorem dL_law_193 : decode cL_law 193 = .ok (.ifCond .eq 7, 3) := by decide +kernel
theorem dL_law_196 : decode cL_law 196 = .ok (.iconst 1, 1) := by decide +kernel
theorem dL_law_197 : decode cL_law 197 = .ok (.goto 4, 3) := by decide +kernel
theorem dL_law_200 : decode cL_law 200 = .ok (.iconst 0, 1) := by decide +kernel
theorem dL_law_201 : decode cL_law 201 = .ok (.aload_n 0, 1) := by decide +kernel
theorem dL_law_202 : decode cL_law 202 = .ok (.iload_n 3, 1) := by decide +kernel
theorem dL_law_203 : decode cL_law 203 = .ok (.iconst 4, 1) := by decide +kernel
theorem dL_law_204 : decode cL_law 204 = .ok (.iadd, 1) := by decide +kernel
theorem dL_law_205 : decode cL_law 205 = .ok (.iaload, 1) := by decide +kernel
theorem dL_law_206 : decode cL_law 206 = .ok (.invokevirtual 18, 3) := by decide +kernel
theorem dL_law_209 : decode cL_law 209 = .ok (.aload_n 2, 1) := by decide +kernel
theorem dL_law_210 : decode cL_law 210 = .ok (.aload_n 0, 1) := by decide +kernel
theorem dL_law_211 : decode cL_law 211 = .ok (.iload_n 3, 1) := by decide +kernel
theorem dL_law_212 : decode cL_law 212 = .ok (.iconst 1, 1) := by decide +kernel
theorem dL_law_213 : decode cL_law 213 = .ok (.iadd, 1) := by decide +kernel
theorem dL_law_214 : decode cL_law 214 = .ok (.iaload, 1) := by decide +kernel
theorem dL_law_215 : decode cL_law 215 = .ok (.aload_n 0, 1) := by decide +kernel
theorem dL_law_216 : decode cL_law 216 = .ok (.iload_n 3, 1) := by decide +kernel
theorem dL_law_217 : decode cL_law 217 = .ok (.iconst 2, 1) := by decide +kernel
theorem dL_law_218 : decode cL_law 218 = .ok (.iadd, 1) := by decide +kernel
theorem dL_law_219 : decode cL_law 219 = .ok (.iaload, 1) := by decide +kernel
theorem dL_law_220 : decode cL_law 220 = .ok (.aload_n 0, 1) := by decide +kernel
theorem dL_law_221 : decode cL_law 221 = .ok (.iload_n 3, 1) := by decide +kernel
theorem dL_law_222 : decode cL_law 222 = .ok (.iconst 3, 1) := by decide +kernel
theorem dL_law_223 : decode cL_law 223 = .ok (.iadd, 1) := by decide +kernel
theorem dL_law_224 : decode cL_law 224 = .ok (.iaload, 1) := by decide +kernel
theorem dL_law_225 : decode cL_law 225 = .ok (.ifCond .eq 7, 3) := by decide +kernel
theorem dL_law_228 : decode cL_law 228 = .ok (.iconst 1, 1) := by decide +kernel
theorem dL_law_229 : decode cL_law 229 = .ok (.goto 4, 3) := by decide +kernel
theorem dL_law_232 : decode cL_law 232 = .ok (.iconst 0, 1) := by decide +kernel
theorem dL_law_233 : decode cL_law 233 = .ok (.aload_n 0, 1) := by decide +kernel
theorem dL_law_234 : decode cL_law 234 = .ok (.iload_n 3, 1) := by decide +kernel
theorem dL_law_235 : decode cL_law 235 = .ok (.iconst 4, 1) := by decide +kernel
theorem dL_law_236 : decode cL_law 236 = .ok (.iadd, 1) := by decide +kernel
theorem dL_law_237 : decode cL_law 237 = .ok (.iaload, 1) := by decide +kernel
theorem dL_law_238 : decode cL_law 238 = .ok (.invokevirtual 22, 3) := by decide +kernel
theorem dL_law_241 : decode cL_law 241 = .ok (.if_icmp .eq 577, 3) := by decide +kernel
theorem dL_law_244 : decode cL_law 244 = .ok (.iconst 0, 1) := by decide +kernel
theorem dL_law_245 : decode cL_law 245 = .ok (.ireturn, 1) := by decide +kernel
theorem dL_law_246 : decode cL_law 246 = .ok (.aload_n 1, 1) := by decide +kernel
theorem dL_law_247 : decode cL_law 247 = .ok (.aload_n 0, 1) := by decide +kernel
theorem dL_law_248 : decode cL_law 248 = .ok (.iload_n 3, 1) := by decide +kernel
theorem dL_law_249 : decode cL_law 249 = .ok (.iconst 1, 1) := by decide +kernel
theorem dL_law_250 : decode cL_law 250 = .ok (.iadd, 1) := by decide +kernel
theorem dL_law_251 : decode cL_law 251 = .ok (.iaload, 1) := by decide +kernel
theorem dL_law_252 : decode cL_law 252 = .ok (.invokevirtual 23, 3) := by decide +kernel
theorem dL_law_255 : decode cL_law 255 = .ok (.aload_n 2, 1) := by decide +kernel
theorem dL_law_256 : decode cL_law 256 = .ok (.aload_n 0, 1) := by decide +kernel
theorem dL_law_257 : decode cL_law 257 = .ok (.iload_n 3, 1) := by decide +kernel
theorem dL_law_258 : decode cL_law 258 = .ok (.iconst 1, 1) := by decide +kernel
theorem dL_law_259 : decode cL_law 259 = .ok (.iadd, 1) := by decide +kernel
theorem dL_law_260 : decode cL_law 260 = .ok (.iaload, 1) := by decide +kernel
theorem dL_law_261 : decode cL_law 261 = .ok (.invokevirtual 27, 3) := by decide +kernel
theorem dL_law_264 : decode cL_law 264 = .ok (.if_icmp .eq 554, 3) := by decide +kernel
theorem dL_law_267 : decode cL_law 267 = .ok (.iconst 0, 1) := by decide +kernel
theorem dL_law_268 : decode cL_law 268 = .ok (.ireturn, 1) := by decide +kernel
theorem dL_law_269 : decode cL_law 269 = .ok (.aload_n 1, 1) := by decide +kernel
theorem dL_law_270 : decode cL_law 270 = .ok (.aload_n 0, 1) := by decide +kernel
theorem dL_law_271 : decode cL_law 271 = .ok (.iload_n 3, 1) := by decide +kernel
theorem dL_law_272 : decode cL_law 272 = .ok (.iconst 1, 1) := by decide +kernel
theorem dL_law_273 : decode cL_law 273 = .ok (.iadd, 1) := by decide +kernel
theorem dL_law_274 : decode cL_law 274 = .ok (.iaload, 1) := by decide +kernel
theorem dL_law_275 : decode cL_law 275 = .ok (.invokevirtual 28, 3) := by decide +kernel
theorem dL_law_278 : decode cL_law 278 = .ok (.aload_n 2, 1) := by decide +kernel
theorem dL_law_279 : decode cL_law 279 = .ok (.aload_n 0, 1) := by decide +kernel
theorem dL_law_280 : decode cL_law 280 = .ok (.iload_n 3, 1) := by decide +kernel
theorem dL_law_281 : decode cL_law 281 = .ok (.iconst 1, 1) := by decide +kernel
theorem dL_law_282 : decode cL_law 282 = .ok (.iadd, 1) := by decide +kernel
theorem dL_law_283 : decode cL_law 283 = .ok (.iaload, 1) := by decide +kernel
theorem dL_law_284 : decode cL_law 284 = .ok (.invokevirtual 31, 3) := by decide +kernel
theorem dL_law_287 : decode cL_law 287 = .ok (.if_icmp .eq 531, 3) := by decide +kernel
theorem dL_law_290 : decode cL_law 290 = .ok (.iconst 0, 1) := by decide +kernel
theorem dL_law_291 : decode cL_law 291 = .ok (.ireturn, 1) := by decide +kernel
theorem dL_law_292 : decode cL_law 292 = .ok (.aload_n 1, 1) := by decide +kernel
theorem dL_law_293 : decode cL_law 293 = .ok (.aload_n 0, 1) := by decide +kernel
theorem dL_law_294 : decode cL_law 294 = .ok (.iload_n 3, 1) := by decide +kernel
theorem dL_law_295 : decode cL_law 295 = .ok (.iconst 1, 1) := by decide +kernel
theorem dL_law_296 : decode cL_law 296 = .ok (.iadd, 1) := by decide +kernel
theorem dL_law_297 : decode cL_law 297 = .ok (.iaload, 1) := by decide +kernel
theorem dL_law_298 : decode cL_law 298 = .ok (.aload_n 0, 1) := by decide +kernel
theorem dL_law_299 : decode cL_law 299 = .ok (.iload_n 3, 1) := by decide +kernel
theorem dL_law_300 : decode cL_law 300 = .ok (.iconst 2, 1) := by decide +kernel
theorem dL_law_301 : decode cL_law 301 = .ok (.iadd, 1) := by decide +kernel
theorem dL_law_302 : decode cL_law 302 = .ok (.iaload, 1) := by decide +kernel
theorem dL_law_303 : decode cL_law 303 = .ok (.invokevirtual 32, 3) := by decide +kernel
theorem dL_law_306 : decode cL_law 306 = .ok (.aload_n 2, 1) := by decide +kernel
theorem dL_law_307 : decode cL_law 307 = .ok (.aload_n 0, 1) := by decide +kernel
theorem dL_law_308 : decode cL_law 308 = .ok (.iload_n 3, 1) := by decide +kernel
theorem dL_law_309 : decode cL_law 309 = .ok (.iconst 1, 1) := by decide +kernel
theorem dL_law_310 : decode cL_law 310 = .ok (.iadd, 1) := by decide +kernel
theorem dL_law_311 : decode cL_law 311 = .ok (.iaload, 1) := by decide +kernel
theorem dL_law_312 : decode cL_law 312 = .ok (.aload_n 0, 1) := by decide +kernel
theorem dL_law_313 : decode cL_law 313 = .ok (.iload_n 3, 1) := by decide +kernel
theorem dL_law_314 : decode cL_law 314 = .ok (.iconst 2, 1) := by decide +kernel
theorem dL_law_315 : decode cL_law 315 = .ok (.iadd, 1) := by decide +kernel
theorem dL_law_316 : decode cL_law 316 = .ok (.iaload, 1) := by decide +kernel
theorem dL_law_317 : decode cL_law 317 = .ok (.invokevirtual 35, 3) := by decide +kernel
theorem dL_law_320 : decode cL_law 320 = .ok (.if_icmp .eq 498, 3) := by decide +kernel
theorem dL_law_323 : decode cL_law 323 = .ok (.iconst 0, 1) := by decide +kernel
theorem dL_law_324 : decode cL_law 324 = .ok (.ireturn, 1) := by decide +kernel
theorem dL_law_325 : decode cL_law 325 = .ok (.aload_n 1, 1) := by decide +kernel
theorem dL_law_326 : decode cL_law 326 = .ok (.aload_n 0, 1) := by decide +kernel
theorem dL_law_327 : decode cL_law 327 = .ok (.iload_n 3, 1) := by decide +kernel
theorem dL_law_328 : decode cL_law 328 = .ok (.iconst 1, 1) := by decide +kernel
theorem dL_law_329 : decode cL_law 329 = .ok (.iadd, 1) := by decide +kernel
theorem dL_law_330 : decode cL_law 330 = .ok (.iaload, 1) := by decide +kernel
theorem dL_law_331 : decode cL_law 331 = .ok (.invokevirtual 36, 3) := by decide +kernel
theorem dL_law_334 : decode cL_law 334 = .ok (.aload_n 2, 1) := by decide +kernel
theorem dL_law_335 : decode cL_law 335 = .ok (.aload_n 0, 1) := by decide +kernel
theorem dL_law_336 : decode cL_law 336 = .ok (.iload_n 3, 1) := by decide +kernel
theorem dL_law_337 : decode cL_law 337 = .ok (.iconst 1, 1) := by decide +kernel
theorem dL_law_338 : decode cL_law 338 = .ok (.iadd, 1) := by decide +kernel
theorem dL_law_339 : decode cL_law 339 = .ok (.iaload, 1) := by decide +kernel
theorem dL_law_340 : decode cL_law 340 = .ok (.invokevirtual 39, 3) := by decide +kernel
theorem dL_law_343 : decode cL_law 343 = .ok (.if_icmp .eq 475, 3) := by decide +kernel
theorem dL_law_346 : decode cL_law 346 = .ok (.iconst 0, 1) := by decide +kernel
theorem dL_law_347 : decode cL_law 347 = .ok (.ireturn, 1) := by decide +kernel
theorem dL_law_348 : decode cL_law 348 = .ok (.aload_n 1, 1) := by decide +kernel
theorem dL_law_349 : decode cL_law 349 = .ok (.invokevirtual 40, 3) := by decide +kernel
theorem dL_law_352 : decode cL_law 352 = .ok (.aload_n 2, 1) := by decide +kernel
theorem dL_law_353 : decode cL_law 353 = .ok (.invokevirtual 44, 3) := by decide +kernel
theorem dL_law_356 : decode cL_law 356 = .ok (.if_icmp .eq 462, 3) := by decide +kernel
theorem dL_law_359 : decode cL_law 359 = .ok (.iconst 0, 1) := by decide +kernel
theorem dL_law_360 : decode cL_law 360 = .ok (.ireturn, 1) := by decide +kernel
theorem dL_law_361 : decode cL_law 361 = .ok (.aload_n 1, 1) := by decide +kernel
theorem dL_law_362 : decode cL_law 362 = .ok (.aload_n 0, 1) := by decide +kernel
theorem dL_law_363 : decode cL_law 363 = .ok (.iload_n 3, 1) := by decide +kernel
theorem dL_law_364 : decode cL_law 364 = .ok (.iconst 1, 1) := by decide +kernel
theorem dL_law_365 : decode cL_law 365 = .ok (.iadd, 1) := by decide +kernel
theorem dL_law_366 : decode cL_law 366 = .ok (.iaload, 1) := by decide +kernel
theorem dL_law_367 : decode cL_law 367 = .ok (.aload_n 0, 1) := by decide +kernel
theorem dL_law_368 : decode cL_law 368 = .ok (.iload_n 3, 1) := by decide +kernel
theorem dL_law_369 : decode cL_law 369 = .ok (.iconst 2, 1) := by decide +kernel
theorem dL_law_370 : decode cL_law 370 = .ok (.iadd, 1) := by decide +kernel
theorem dL_law_371 : decode cL_law 371 = .ok (.iaload, 1) := by decide +kernel
theorem dL_law_372 : decode cL_law 372 = .ok (.invokevirtual 45, 3) := by decide +kernel
theorem dL_law_375 : decode cL_law 375 = .ok (.aload_n 2, 1) := by decide +kernel
theorem dL_law_376 : decode cL_law 376 = .ok (.aload_n 0, 1) := by decide +kernel
theorem dL_law_377 : decode cL_law 377 = .ok (.iload_n 3, 1) := by decide +kernel
theorem dL_law_378 : decode cL_law 378 = .ok (.iconst 1, 1) := by decide +kernel
theorem dL_law_379 : decode cL_law 379 = .ok (.iadd, 1) := by decide +kernel
theorem dL_law_380 : decode cL_law 380 = .ok (.iaload, 1) := by decide +kernel
theorem dL_law_381 : decode cL_law 381 = .ok (.aload_n 0, 1) := by decide +kernel
theorem dL_law_382 : decode cL_law 382 = .ok (.iload_n 3, 1) := by decide +kernel
theorem dL_law_383 : decode cL_law 383 = .ok (.iconst 2, 1) := by decide +kernel
theorem dL_law_384 : decode cL_law 384 = .ok (.iadd, 1) := by decide +kernel
theorem dL_law_385 : decode cL_law 385 = .ok (.iaload, 1) := by decide +kernel
theorem dL_law_386 : decode cL_law 386 = .ok (.invokevirtual 48, 3) := by decide +kernel
theorem dL_law_389 : decode cL_law 389 = .ok (.if_icmp .eq 429, 3) := by decide +kernel
theorem dL_law_392 : decode cL_law 392 = .ok (.iconst 0, 1) := by decide +kernel
theorem dL_law_393 : decode cL_law 393 = .ok (.ireturn, 1) := by decide +kernel
theorem dL_law_394 : decode cL_law 394 = .ok (.aload_n 1, 1) := by decide +kernel
theorem dL_law_395 : decode cL_law 395 = .ok (.aload_n 0, 1) := by decide +kernel
theorem dL_law_396 : decode cL_law 396 = .ok (.iload_n 3, 1) := by decide +kernel
theorem dL_law_397 : decode cL_law 397 = .ok (.iconst 1, 1) := by decide +kernel
theorem dL_law_398 : decode cL_law 398 = .ok (.iadd, 1) := by decide +kernel
theorem dL_law_399 : decode cL_law 399 = .ok (.iaload, 1) := by decide +kernel
theorem dL_law_400 : decode cL_law 400 = .ok (.aload_n 0, 1) := by decide +kernel
theorem dL_law_401 : decode cL_law 401 = .ok (.iload_n 3, 1) := by decide +kernel
theorem dL_law_402 : decode cL_law 402 = .ok (.iconst 2, 1) := by decide +kernel
theorem dL_law_403 : decode cL_law 403 = .ok (.iadd, 1) := by decide +kernel
theorem dL_law_404 : decode cL_law 404 = .ok (.iaload, 1) := by decide +kernel
theorem dL_law_405 : decode cL_law 405 = .ok (.invokevirtual 49, 3) := by decide +kernel
theorem dL_law_408 : decode cL_law 408 = .ok (.aload_n 2, 1) := by decide +kernel
theorem dL_law_409 : decode cL_law 409 = .ok (.aload_n 0, 1) := by decide +kernel
theorem dL_law_410 : decode cL_law 410 = .ok (.iload_n 3, 1) := by decide +kernel
theorem dL_law_411 : decode cL_law 411 = .ok (.iconst 1, 1) := by decide +kernel
theorem dL_law_412 : decode cL_law 412 = .ok (.iadd, 1) := by decide +kernel
theorem dL_law_413 : decode cL_law 413 = .ok (.iaload, 1) := by decide +kernel
theorem dL_law_414 : decode cL_law 414 = .ok (.aload_n 0, 1) := by decide +kernel
theorem dL_law_415 : decode cL_law 415 = .ok (.iload_n 3, 1) := by decide +kernel
theorem dL_law_416 : decode cL_law 416 = .ok (.iconst 2, 1) := by decide +kernel
theorem dL_law_417 : decode cL_law 417 = .ok (.iadd, 1) := by decide +kernel
theorem dL_law_418 : decode cL_law 418 = .ok (.iaload, 1) := by decide +kernel
theorem dL_law_419 : decode cL_law 419 = .ok (.invokevirtual 52, 3) := by decide +kernel
theorem dL_law_422 : decode cL_law 422 = .ok (.if_icmp .eq 396, 3) := by decide +kernel
theorem dL_law_425 : decode cL_law 425 = .ok (.iconst 0, 1) := by decide +kernel
theorem dL_law_426 : decode cL_law 426 = .ok (.ireturn, 1) := by decide +kernel
theorem dL_law_427 : decode cL_law 427 = .ok (.aload_n 1, 1) := by decide +kernel
theorem dL_law_428 : decode cL_law 428 = .ok (.aload_n 0, 1) := by decide +kernel
theorem dL_law_429 : decode cL_law 429 = .ok (.iload_n 3, 1) := by decide +kernel
theorem dL_law_430 : decode cL_law 430 = .ok (.iconst 1, 1) := by decide +kernel
theorem dL_law_431 : decode cL_law 431 = .ok (.iadd, 1) := by decide +kernel
theorem dL_law_432 : decode cL_law 432 = .ok (.iaload, 1) := by decide +kernel
theorem dL_law_433 : decode cL_law 433 = .ok (.aload_n 0, 1) := by decide +kernel
theorem dL_law_434 : decode cL_law 434 = .ok (.iload_n 3, 1) := by decide +kernel
theorem dL_law_435 : decode cL_law 435 = .ok (.iconst 2, 1) := by decide +kernel
theorem dL_law_436 : decode cL_law 436 = .ok (.iadd, 1) := by decide +kernel
theorem dL_law_437 : decode cL_law 437 = .ok (.iaload, 1) := by decide +kernel
theorem dL_law_438 : decode cL_law 438 = .ok (.invokevirtual 53, 3) := by decide +kernel
theorem dL_law_441 : decode cL_law 441 = .ok (.aload_n 2, 1) := by decide +kernel
theorem dL_law_442 : decode cL_law 442 = .ok (.aload_n 0, 1) := by decide +kernel
theorem dL_law_443 : decode cL_law 443 = .ok (.iload_n 3, 1) := by decide +kernel
theorem dL_law_444 : decode cL_law 444 = .ok (.iconst 1, 1) := by decide +kernel
theorem dL_law_445 : decode cL_law 445 = .ok (.iadd, 1) := by decide +kernel
theorem dL_law_446 : decode cL_law 446 = .ok (.iaload, 1) := by decide +kernel
theorem dL_law_447 : decode cL_law 447 = .ok (.aload_n 0, 1) := by decide +kernel
theorem dL_law_448 : decode cL_law 448 = .ok (.iload_n 3, 1) := by decide +kernel
theorem dL_law_449 : decode cL_law 449 = .ok (.iconst 2, 1) := by decide +kernel
theorem dL_law_450 : decode cL_law 450 = .ok (.iadd, 1) := by decide +kernel
theorem dL_law_451 : decode cL_law 451 = .ok (.iaload, 1) := by decide +kernel
theorem dL_law_452 : decode cL_law 452 = .ok (.invokevirtual 56, 3) := by decide +kernel
theorem dL_law_455 : decode cL_law 455 = .ok (.if_icmp .eq 363, 3) := by decide +kernel
theorem dL_law_458 : decode cL_law 458 = .ok (.iconst 0, 1) := by decide +kernel
theorem dL_law_459 : decode cL_law 459 = .ok (.ireturn, 1) := by decide +kernel
theorem dL_law_460 : decode cL_law 460 = .ok (.aload_n 1, 1) := by decide +kernel
theorem dL_law_461 : decode cL_law 461 = .ok (.aload_n 0, 1) := by decide +kernel
theorem dL_law_462 : decode cL_law 462 = .ok (.iload_n 3, 1) := by decide +kernel
theorem dL_law_463 : decode cL_law 463 = .ok (.iconst 1, 1) := by decide +kernel
theorem dL_law_464 : decode cL_law 464 = .ok (.iadd, 1) := by decide +kernel
theorem dL_law_465 : decode cL_law 465 = .ok (.iaload, 1) := by decide +kernel
theorem dL_law_466 : decode cL_law 466 = .ok (.aload_n 0, 1) := by decide +kernel
theorem dL_law_467 : decode cL_law 467 = .ok (.iload_n 3, 1) := by decide +kernel
theorem dL_law_468 : decode cL_law 468 = .ok (.iconst 2, 1) := by decide +kernel
theorem dL_law_469 : decode cL_law 469 = .ok (.iadd, 1) := by decide +kernel
theorem dL_law_470 : decode cL_law 470 = .ok (.iaload, 1) := by decide +kernel
theorem dL_law_471 : decode cL_law 471 = .ok (.invokevirtual 57, 3) := by decide +kernel
theorem dL_law_474 : decode cL_law 474 = .ok (.aload_n 2, 1) := by decide +kernel
theorem dL_law_475 : decode cL_law 475 = .ok (.aload_n 0, 1) := by decide +kernel
theorem dL_law_476 : decode cL_law 476 = .ok (.iload_n 3, 1) := by decide +kernel
theorem dL_law_477 : decode cL_law 477 = .ok (.iconst 1, 1) := by decide +kernel
theorem dL_law_478 : decode cL_law 478 = .ok (.iadd, 1) := by decide +kernel
theorem dL_law_479 : decode cL_law 479 = .ok (.iaload, 1) := by decide +kernel
theorem dL_law_480 : decode cL_law 480 = .ok (.aload_n 0, 1) := by decide +kernel
theorem dL_law_481 : decode cL_law 481 = .ok (.iload_n 3, 1) := by decide +kernel
theorem dL_law_482 : decode cL_law 482 = .ok (.iconst 2, 1) := by decide +kernel
theorem dL_law_483 : decode cL_law 483 = .ok (.iadd, 1) := by decide +kernel
theorem dL_law_484 : decode cL_law 484 = .ok (.iaload, 1) := by decide +kernel
theorem dL_law_485 : decode cL_law 485 = .ok (.invokevirtual 60, 3) := by decide +kernel
theorem dL_law_488 : decode cL_law 488 = .ok (.if_icmp .eq 330, 3) := by decide +kernel
theorem dL_law_491 : decode cL_law 491 = .ok (.iconst 0, 1) := by decide +kernel
theorem dL_law_492 : decode cL_law 492 = .ok (.ireturn, 1) := by decide +kernel
theorem dL_law_493 : decode cL_law 493 = .ok (.aload_n 1, 1) := by decide +kernel
theorem dL_law_494 : decode cL_law 494 = .ok (.aload_n 0, 1) := by decide +kernel
theorem dL_law_495 : decode cL_law 495 = .ok (.iload_n 3, 1) := by decide +kernel
theorem dL_law_496 : decode cL_law 496 = .ok (.iconst 1, 1) := by decide +kernel
theorem dL_law_497 : decode cL_law 497 = .ok (.iadd, 1) := by decide +kernel
theorem dL_law_498 : decode cL_law 498 = .ok (.iaload, 1) := by decide +kernel
theorem dL_law_499 : decode cL_law 499 = .ok (.aload_n 0, 1) := by decide +kernel
theorem dL_law_500 : decode cL_law 500 = .ok (.iload_n 3, 1) := by decide +kernel
theorem dL_law_501 : decode cL_law 501 = .ok (.iconst 2, 1) := by decide +kernel
theorem dL_law_502 : decode cL_law 502 = .ok (.iadd, 1) := by decide +kernel
theorem dL_law_503 : decode cL_law 503 = .ok (.iaload, 1) := by decide +kernel
theorem dL_law_504 : decode cL_law 504 = .ok (.invokevirtual 61, 3) := by decide +kernel
theorem dL_law_507 : decode cL_law 507 = .ok (.aload_n 2, 1) := by decide +kernel
theorem dL_law_508 : decode cL_law 508 = .ok (.aload_n 0, 1) := by decide +kernel
theorem dL_law_509 : decode cL_law 509 = .ok (.iload_n 3, 1) := by decide +kernel
theorem dL_law_510 : decode cL_law 510 = .ok (.iconst 1, 1) := by decide +kernel
theorem dL_law_511 : decode cL_law 511 = .ok (.iadd, 1) := by decide +kernel
theorem dL_law_512 : decode cL_law 512 = .ok (.iaload, 1) := by decide +kernel
theorem dL_law_513 : decode cL_law 513 = .ok (.aload_n 0, 1) := by decide +kernel
theorem dL_law_514 : decode cL_law 514 = .ok (.iload_n 3, 1) := by decide +kernel
theorem dL_law_515 : decode cL_law 515 = .ok (.iconst 2, 1) := by decide +kernel
theorem dL_law_516 : decode cL_law 516 = .ok (.iadd, 1) := by decide +kernel
theorem dL_law_517 : decode cL_law 517 = .ok (.iaload, 1) := by decide +kernel
theorem dL_law_518 : decode cL_law 518 = .ok (.invokevirtual 64, 3) := by decide +kernel
theorem dL_law_521 : decode cL_law 521 = .ok (.if_icmp .eq 297, 3) := by decide +kernel
theorem dL_law_524 : decode cL_law 524 = .ok (.iconst 0, 1) := by decide +kernel
theorem dL_law_525 : decode cL_law 525 = .ok (.ireturn, 1) := by decide +kernel
theorem dL_law_526 : decode cL_law 526 = .ok (.aload_n 1, 1) := by decide +kernel
theorem dL_law_527 : decode cL_law 527 = .ok (.aload_n 0, 1) := by decide +kernel
theorem dL_law_528 : decode cL_law 528 = .ok (.iload_n 3, 1) := by decide +kernel
theorem dL_law_529 : decode cL_law 529 = .ok (.iconst 1, 1) := by decide +kernel
theorem dL_law_530 : decode cL_law 530 = .ok (.iadd, 1) := by decide +kernel
theorem dL_law_531 : decode cL_law 531 = .ok (.iaload, 1) := by decide +kernel
theorem dL_law_532 : decode cL_law 532 = .ok (.aload_n 0, 1) := by decide +kernel
theorem dL_law_533 : decode cL_law 533 = .ok (.iload_n 3, 1) := by decide +kernel
theorem dL_law_534 : decode cL_law 534 = .ok (.iconst 2, 1) := by decide +kernel
theorem dL_law_535 : decode cL_law 535 = .ok (.iadd, 1) := by decide +kernel
theorem dL_law_536 : decode cL_law 536 = .ok (.iaload, 1) := by decide +kernel
theorem dL_law_537 : decode cL_law 537 = .ok (.aload_n 0, 1) := by decide +kernel
theorem dL_law_538 : decode cL_law 538 = .ok (.iload_n 3, 1) := by decide +kernel
theorem dL_law_539 : decode cL_law 539 = .ok (.iconst 3, 1) := by decide +kernel
theorem dL_law_540 : decode cL_law 540 = .ok (.iadd, 1) := by decide +kernel
theorem dL_law_541 : decode cL_law 541 = .ok (.iaload, 1) := by decide +kernel
theorem dL_law_542 : decode cL_law 542 = .ok (.ifCond .eq 7, 3) := by decide +kernel
theorem dL_law_545 : decode cL_law 545 = .ok (.iconst 1, 1) := by decide +kernel
theorem dL_law_546 : decode cL_law 546 = .ok (.goto 4, 3) := by decide +kernel
theorem dL_law_549 : decode cL_law 549 = .ok (.iconst 0, 1) := by decide +kernel
theorem dL_law_550 : decode cL_law 550 = .ok (.invokevirtual 65, 3) := by decide +kernel
theorem dL_law_553 : decode cL_law 553 = .ok (.aload_n 2, 1) := by decide +kernel
theorem dL_law_554 : decode cL_law 554 = .ok (.aload_n 0, 1) := by decide +kernel
theorem dL_law_555 : decode cL_law 555 = .ok (.iload_n 3, 1) := by decide +kernel
theorem dL_law_556 : decode cL_law 556 = .ok (.iconst 1, 1) := by decide +kernel
theorem dL_law_557 : decode cL_law 557 = .ok (.iadd, 1) := by decide +kernel
theorem dL_law_558 : decode cL_law 558 = .ok (.iaload, 1) := by decide +kernel
theorem dL_law_559 : decode cL_law 559 = .ok (.aload_n 0, 1) := by decide +kernel
theorem dL_law_560 : decode cL_law 560 = .ok (.iload_n 3, 1) := by decide +kernel
theorem dL_law_561 : decode cL_law 561 = .ok (.iconst 2, 1) := by decide +kernel
theorem dL_law_562 : decode cL_law 562 = .ok (.iadd, 1) := by decide +kernel
theorem dL_law_563 : decode cL_law 563 = .ok (.iaload, 1) := by decide +kernel
theorem dL_law_564 : decode cL_law 564 = .ok (.aload_n 0, 1) := by decide +kernel
theorem dL_law_565 : decode cL_law 565 = .ok (.iload_n 3, 1) := by decide +kernel
theorem dL_law_566 : decode cL_law 566 = .ok (.iconst 3, 1) := by decide +kernel
theorem dL_law_567 : decode cL_law 567 = .ok (.iadd, 1) := by decide +kernel
theorem dL_law_568 : decode cL_law 568 = .ok (.iaload, 1) := by decide +kernel
theorem dL_law_569 : decode cL_law 569 = .ok (.ifCond .eq 7, 3) := by decide +kernel
theorem dL_law_572 : decode cL_law 572 = .ok (.iconst 1, 1) := by decide +kernel
theorem dL_law_573 : decode cL_law 573 = .ok (.goto 4, 3) := by decide +kernel
theorem dL_law_576 : decode cL_law 576 = .ok (.iconst 0, 1) := by decide +kernel
theorem dL_law_577 : decode cL_law 577 = .ok (.invokevirtual 69, 3) := by decide +kernel
theorem dL_law_580 : decode cL_law 580 = .ok (.if_icmp .eq 238, 3) := by decide +kernel
theorem dL_law_583 : decode cL_law 583 = .ok (.iconst 0, 1) := by decide +kernel
theorem dL_law_584 : decode cL_law 584 = .ok (.ireturn, 1) := by decide +kernel
theorem dL_law_585 : decode cL_law 585 = .ok (.aload_n 1, 1) := by decide +kernel
theorem dL_law_586 : decode cL_law 586 = .ok (.aload_n 0, 1) := by decide +kernel
theorem dL_law_587 : decode cL_law 587 = .ok (.iload_n 3, 1) := by decide +kernel
theorem dL_law_588 : decode cL_law 588 = .ok (.iconst 1, 1) := by decide +kernel
theorem dL_law_589 : decode cL_law 589 = .ok (.iadd, 1) := by decide +kernel
theorem dL_law_590 : decode cL_law 590 = .ok (.iaload, 1) := by decide +kernel
theorem dL_law_591 : decode cL_law 591 = .ok (.aload_n 0, 1) := by decide +kernel
theorem dL_law_592 : decode cL_law 592 = .ok (.iload_n 3, 1) := by decide +kernel
theorem dL_law_593 : decode cL_law 593 = .ok (.iconst 2, 1) := by decide +kernel
theorem dL_law_594 : decode cL_law 594 = .ok (.iadd, 1) := by decide +kernel
theorem dL_law_595 : decode cL_law 595 = .ok (.iaload, 1) := by decide +kernel
theorem dL_law_596 : decode cL_law 596 = .ok (.invokevirtual 70, 3) := by decide +kernel
theorem dL_law_599 : decode cL_law 599 = .ok (.aload_n 2, 1) := by decide +kernel
theorem dL_law_600 : decode cL_law 600 = .ok (.aload_n 0, 1) := by decide +kernel
theorem dL_law_601 : decode cL_law 601 = .ok (.iload_n 3, 1) := by decide +kernel
theorem dL_law_602 : decode cL_law 602 = .ok (.iconst 1, 1) := by decide +kernel
theorem dL_law_603 : decode cL_law 603 = .ok (.iadd, 1) := by decide +kernel
theorem dL_law_604 : decode cL_law 604 = .ok (.iaload, 1) := by decide +kernel
theorem dL_law_605 : decode cL_law 605 = .ok (.aload_n 0, 1) := by decide +kernel
theorem dL_law_606 : decode cL_law 606 = .ok (.iload_n 3, 1) := by decide +kernel
theorem dL_law_607 : decode cL_law 607 = .ok (.iconst 2, 1) := by decide +kernel
theorem dL_law_608 : decode cL_law 608 = .ok (.iadd, 1) := by decide +kernel
theorem dL_law_609 : decode cL_law 609 = .ok (.iaload, 1) := by decide +kernel
theorem dL_law_610 : decode cL_law 610 = .ok (.invokevirtual 73, 3) := by decide +kernel
theorem dL_law_613 : decode cL_law 613 = .ok (.if_icmp .eq 205, 3) := by decide +kernel
theorem dL_law_616 : decode cL_law 616 = .ok (.iconst 0, 1) := by decide +kernel
theorem dL_law_617 : decode cL_law 617 = .ok (.ireturn, 1) := by decide +kernel
theorem dL_law_618 : decode cL_law 618 = .ok (.aload_n 1, 1) := by decide +kernel
theorem dL_law_619 : decode cL_law 619 = .ok (.aload_n 0, 1) := by decide +kernel
theorem dL_law_620 : decode cL_law 620 = .ok (.iload_n 3, 1) := by decide +kernel
theorem dL_law_621 : decode cL_law 621 = .ok (.iconst 1, 1) := by decide +kernel
theorem dL_law_622 : decode cL_law 622 = .ok (.iadd, 1) := by decide +kernel
theorem dL_law_623 : decode cL_law 623 = .ok (.iaload, 1) := by decide +kernel
theorem dL_law_624 : decode cL_law 624 = .ok (.invokevirtual 74, 3) := by decide +kernel
theorem dL_law_627 : decode cL_law 627 = .ok (.aload_n 2, 1) := by decide +kernel
theorem dL_law_628 : decode cL_law 628 = .ok (.aload_n 0, 1) := by decide +kernel
theorem dL_law_629 : decode cL_law 629 = .ok (.iload_n 3, 1) := by decide +kernel
theorem dL_law_630 : decode cL_law 630 = .ok (.iconst 1, 1) := by decide +kernel
theorem dL_law_631 : decode cL_law 631 = .ok (.iadd, 1) := by decide +kernel
theorem dL_law_632 : decode cL_law 632 = .ok (.iaload, 1) := by decide +kernel
theorem dL_law_633 : decode cL_law 633 = .ok (.invokevirtual 77, 3) := by decide +kernel
theorem dL_law_636 : decode cL_law 636 = .ok (.if_icmp .eq 182, 3) := by decide +kernel
theorem dL_law_639 : decode cL_law 639 = .ok (.iconst 0, 1) := by decide +kernel
theorem dL_law_640 : decode cL_law 640 = .ok (.ireturn, 1) := by decide +kernel
theorem dL_law_641 : decode cL_law 641 = .ok (.aload_n 1, 1) := by decide +kernel
theorem dL_law_642 : decode cL_law 642 = .ok (.aload_n 0, 1) := by decide +kernel
theorem dL_law_643 : decode cL_law 643 = .ok (.iload_n 3, 1) := by decide +kernel
theorem dL_law_644 : decode cL_law 644 = .ok (.iconst 1, 1) := by decide +kernel
theorem dL_law_645 : decode cL_law 645 = .ok (.iadd, 1) := by decide +kernel
theorem dL_law_646 : decode cL_law 646 = .ok (.iaload, 1) := by decide +kernel
theorem dL_law_647 : decode cL_law 647 = .ok (.invokevirtual 78, 3) := by decide +kernel
theorem dL_law_650 : decode cL_law 650 = .ok (.aload_n 2, 1) := by decide +kernel
theorem dL_law_651 : decode cL_law 651 = .ok (.aload_n 0, 1) := by decide +kernel
theorem dL_law_652 : decode cL_law 652 = .ok (.iload_n 3, 1) := by decide +kernel
theorem dL_law_653 : decode cL_law 653 = .ok (.iconst 1, 1) := by decide +kernel
theorem dL_law_654 : decode cL_law 654 = .ok (.iadd, 1) := by decide +kernel
theorem dL_law_655 : decode cL_law 655 = .ok (.iaload, 1) := by decide +kernel
theorem dL_law_656 : decode cL_law 656 = .ok (.invokevirtual 81, 3) := by decide +kernel
theorem dL_law_659 : decode cL_law 659 = .ok (.if_icmp .eq 159, 3) := by decide +kernel
theorem dL_law_662 : decode cL_law 662 = .ok (.iconst 0, 1) := by decide +kernel
theorem dL_law_663 : decode cL_law 663 = .ok (.ireturn, 1) := by decide +kernel
theorem dL_law_664 : decode cL_law 664 = .ok (.aload_n 1, 1) := by decide +kernel
theorem dL_law_665 : decode cL_law 665 = .ok (.aload_n 0, 1) := by decide +kernel
theorem dL_law_666 : decode cL_law 666 = .ok (.iload_n 3, 1) := by decide +kernel
theorem dL_law_667 : decode cL_law 667 = .ok (.iconst 1, 1) := by decide +kernel
theorem dL_law_668 : decode cL_law 668 = .ok (.iadd, 1) := by decide +kernel
theorem dL_law_669 : decode cL_law 669 = .ok (.iaload, 1) := by decide +kernel
theorem dL_law_670 : decode cL_law 670 = .ok (.aload_n 0, 1) := by decide +kernel
theorem dL_law_671 : decode cL_law 671 = .ok (.iload_n 3, 1) := by decide +kernel
theorem dL_law_672 : decode cL_law 672 = .ok (.iconst 2, 1) := by decide +kernel
theorem dL_law_673 : decode cL_law 673 = .ok (.iadd, 1) := by decide +kernel
theorem dL_law_674 : decode cL_law 674 = .ok (.iaload, 1) := by decide +kernel
theorem dL_law_675 : decode cL_law 675 = .ok (.invokevirtual 82, 3) := by decide +kernel
theorem dL_law_678 : decode cL_law 678 = .ok (.aload_n 2, 1) := by decide +kernel
theorem dL_law_679 : decode cL_law 679 = .ok (.aload_n 0, 1) := by decide +kernel
theorem dL_law_680 : decode cL_law 680 = .ok (.iload_n 3, 1) := by decide +kernel
theorem dL_law_681 : decode cL_law 681 = .ok (.iconst 1, 1) := by decide +kernel
theorem dL_law_682 : decode cL_law 682 = .ok (.iadd, 1) := by decide +kernel
theorem dL_law_683 : decode cL_law 683 = .ok (.iaload, 1) := by decide +kernel
theorem dL_law_684 : decode cL_law 684 = .ok (.aload_n 0, 1) := by decide +kernel
theorem dL_law_685 : decode cL_law 685 = .ok (.iload_n 3, 1) := by decide +kernel
theorem dL_law_686 : decode cL_law 686 = .ok (.iconst 2, 1) := by decide +kernel
theorem dL_law_687 : decode cL_law 687 = .ok (.iadd, 1) := by decide +kernel
theorem dL_law_688 : decode cL_law 688 = .ok (.iaload, 1) := by decide +kernel
theorem dL_law_689 : decode cL_law 689 = .ok (.invokevirtual 85, 3) := by decide +kernel
theorem dL_law_692 : decode cL_law 692 = .ok (.if_icmp .eq 126, 3) := by decide +kernel
theorem dL_law_695 : decode cL_law 695 = .ok (.iconst 0, 1) := by decide +kernel
theorem dL_law_696 : decode cL_law 696 = .ok (.ireturn, 1) := by decide +kernel
theorem dL_law_697 : decode cL_law 697 = .ok (.aload_n 1, 1) := by decide +kernel
theorem dL_law_698 : decode cL_law 698 = .ok (.invokevirtual 86, 3) := by decide +kernel
theorem dL_law_701 : decode cL_law 701 = .ok (.aload_n 2, 1) := by decide +kernel
theorem dL_law_702 : decode cL_law 702 = .ok (.invokevirtual 89, 3) := by decide +kernel
theorem dL_law_705 : decode cL_law 705 = .ok (.if_icmp .eq 113, 3) := by decide +kernel
theorem dL_law_708 : decode cL_law 708 = .ok (.iconst 0, 1) := by decide +kernel
theorem dL_law_709 : decode cL_law 709 = .ok (.ireturn, 1) := by decide +kernel
theorem dL_law_710 : decode cL_law 710 = .ok (.aload_n 1, 1) := by decide +kernel
theorem dL_law_711 : decode cL_law 711 = .ok (.aload_n 0, 1) := by decide +kernel
theorem dL_law_712 : decode cL_law 712 = .ok (.iload_n 3, 1) := by decide +kernel
theorem dL_law_713 : decode cL_law 713 = .ok (.iconst 1, 1) := by decide +kernel
theorem dL_law_714 : decode cL_law 714 = .ok (.iadd, 1) := by decide +kernel
theorem dL_law_715 : decode cL_law 715 = .ok (.iaload, 1) := by decide +kernel
theorem dL_law_716 : decode cL_law 716 = .ok (.invokevirtual 90, 3) := by decide +kernel
theorem dL_law_719 : decode cL_law 719 = .ok (.aload_n 2, 1) := by decide +kernel
theorem dL_law_720 : decode cL_law 720 = .ok (.aload_n 0, 1) := by decide +kernel
theorem dL_law_721 : decode cL_law 721 = .ok (.iload_n 3, 1) := by decide +kernel
theorem dL_law_722 : decode cL_law 722 = .ok (.iconst 1, 1) := by decide +kernel
theorem dL_law_723 : decode cL_law 723 = .ok (.iadd, 1) := by decide +kernel
theorem dL_law_724 : decode cL_law 724 = .ok (.iaload, 1) := by decide +kernel
theorem dL_law_725 : decode cL_law 725 = .ok (.invokevirtual 93, 3) := by decide +kernel
theorem dL_law_728 : decode cL_law 728 = .ok (.if_icmp .eq 90, 3) := by decide +kernel
theorem dL_law_731 : decode cL_law 731 = .ok (.iconst 0, 1) := by decide +kernel
theorem dL_law_732 : decode cL_law 732 = .ok (.ireturn, 1) := by decide +kernel
theorem dL_law_733 : decode cL_law 733 = .ok (.aload_n 1, 1) := by decide +kernel
theorem dL_law_734 : decode cL_law 734 = .ok (.invokevirtual 94, 3) := by decide +kernel
theorem dL_law_737 : decode cL_law 737 = .ok (.aload_n 2, 1) := by decide +kernel
theorem dL_law_738 : decode cL_law 738 = .ok (.invokevirtual 97, 3) := by decide +kernel
theorem dL_law_741 : decode cL_law 741 = .ok (.if_icmp .eq 77, 3) := by decide +kernel
theorem dL_law_744 : decode cL_law 744 = .ok (.iconst 0, 1) := by decide +kernel
theorem dL_law_745 : decode cL_law 745 = .ok (.ireturn, 1) := by decide +kernel
theorem dL_law_746 : decode cL_law 746 = .ok (.aload_n 1, 1) := by decide +kernel
theorem dL_law_747 : decode cL_law 747 = .ok (.aload_n 0, 1) := by decide +kernel
theorem dL_law_748 : decode cL_law 748 = .ok (.iload_n 3, 1) := by decide +kernel
theorem dL_law_749 : decode cL_law 749 = .ok (.iconst 1, 1) := by decide +kernel
theorem dL_law_750 : decode cL_law 750 = .ok (.iadd, 1) := by decide +kernel
theorem dL_law_751 : decode cL_law 751 = .ok (.iaload, 1) := by decide +kernel
theorem dL_law_752 : decode cL_law 752 = .ok (.invokevirtual 98, 3) := by decide +kernel
theorem dL_law_755 : decode cL_law 755 = .ok (.aload_n 2, 1) := by decide +kernel
theorem dL_law_756 : decode cL_law 756 = .ok (.aload_n 0, 1) := by decide +kernel
theorem dL_law_757 : decode cL_law 757 = .ok (.iload_n 3, 1) := by decide +kernel
theorem dL_law_758 : decode cL_law 758 = .ok (.iconst 1, 1) := by decide +kernel
theorem dL_law_759 : decode cL_law 759 = .ok (.iadd, 1) := by decide +kernel
theorem dL_law_760 : decode cL_law 760 = .ok (.iaload, 1) := by decide +kernel
theorem dL_law_761 : decode cL_law 761 = .ok (.invokevirtual 101, 3) := by decide +kernel
theorem dL_law_764 : decode cL_law 764 = .ok (.if_icmp .eq 54, 3) := by decide +kernel
theorem dL_law_767 : decode cL_law 767 = .ok (.iconst 0, 1) := by decide +kernel
theorem dL_law_768 : decode cL_law 768 = .ok (.ireturn, 1) := by decide +kernel
theorem dL_law_769 : decode cL_law 769 = .ok (.aload_n 1, 1) := by decide +kernel
theorem dL_law_770 : decode cL_law 770 = .ok (.invokevirtual 102, 3) := by decide +kernel
theorem dL_law_773 : decode cL_law 773 = .ok (.aload_n 2, 1) := by decide +kernel
theorem dL_law_774 : decode cL_law 774 = .ok (.invokevirtual 105, 3) := by decide +kernel
theorem dL_law_777 : decode cL_law 777 = .ok (.if_icmp .eq 41, 3) := by decide +kernel
theorem dL_law_780 : decode cL_law 780 = .ok (.iconst 0, 1) := by decide +kernel
theorem dL_law_781 : decode cL_law 781 = .ok (.ireturn, 1) := by decide +kernel
theorem dL_law_782 : decode cL_law 782 = .ok (.aload_n 1, 1) := by decide +kernel
theorem dL_law_783 : decode cL_law 783 = .ok (.aload_n 0, 1) := by decide +kernel
theorem dL_law_784 : decode cL_law 784 = .ok (.iload_n 3, 1) := by decide +kernel
theorem dL_law_785 : decode cL_law 785 = .ok (.iconst 1, 1) := by decide +kernel
theorem dL_law_786 : decode cL_law 786 = .ok (.iadd, 1) := by decide +kernel
theorem dL_law_787 : decode cL_law 787 = .ok (.iaload, 1) := by decide +kernel
theorem dL_law_788 : decode cL_law 788 = .ok (.invokevirtual 106, 3) := by decide +kernel
theorem dL_law_791 : decode cL_law 791 = .ok (.aload_n 2, 1) := by decide +kernel
theorem dL_law_792 : decode cL_law 792 = .ok (.aload_n 0, 1) := by decide +kernel
theorem dL_law_793 : decode cL_law 793 = .ok (.iload_n 3, 1) := by decide +kernel
theorem dL_law_794 : decode cL_law 794 = .ok (.iconst 1, 1) := by decide +kernel
theorem dL_law_795 : decode cL_law 795 = .ok (.iadd, 1) := by decide +kernel
theorem dL_law_796 : decode cL_law 796 = .ok (.iaload, 1) := by decide +kernel
theorem dL_law_797 : decode cL_law 797 = .ok (.invokevirtual 109, 3) := by decide +kernel
theorem dL_law_800 : decode cL_law 800 = .ok (.if_icmp .eq 18, 3) := by decide +kernel
theorem dL_law_803 : decode cL_law 803 = .ok (.iconst 0, 1) := by decide +kernel
theorem dL_law_804 : decode cL_law 804 = .ok (.ireturn, 1) := by decide +kernel
theorem dL_law_805 : decode cL_law 805 = .ok (.aload_n 1, 1) := by decide +kernel
theorem dL_law_806 : decode cL_law 806 = .ok (.invokevirtual 110, 3) := by decide +kernel
theorem dL_law_809 : decode cL_law 809 = .ok (.aload_n 2, 1) := by decide +kernel
theorem dL_law_810 : decode cL_law 810 = .ok (.invokevirtual 113, 3) := by decide +kernel
theorem dL_law_813 : decode cL_law 813 = .ok (.if_icmp .eq 5, 3) := by decide +kernel
theorem dL_law_816 : decode cL_law 816 = .ok (.iconst 0, 1) := by decide +kernel
theorem dL_law_817 : decode cL_law 817 = .ok (.ireturn, 1) := by decide +kernel
theorem dL_law_818 : decode cL_law 818 = .ok (.iinc 3 5, 3) := by decide +kernel
theorem dL_law_821 : decode cL_law 821 = .ok (.goto (-803), 3) := by decide +kernel
theorem dL_law_824 : decode cL_law 824 = .ok (.iconst 1, 1) := by decide +kernel
theorem dL_law_825 : decode cL_law 825 = .ok (.ireturn, 1) := by decide +kernel
end
section
/-! the ground: contracts of readers (nothing is written) and writers (a world becomes another one at the same addresses), and rows for calling them -/
def up {α : Type} (f : Nat → α) (k : Nat) (v : α) : Nat → α := fun j => cond (Nat.beq j k) v (f j)
theorem up_eq {α : Type} (f : Nat → α) (k : Nat) (v : α) : up f k v k = v := by
  show cond (Nat.beq k k) v (f k) = v
  rw [show Nat.beq k k = true from Nat.beq_refl k]
  rfl
theorem up_ne {α : Type} (f : Nat → α) {k j : Nat} (v : α) (h : j ≠ k) : up f k v j = f j := by
  show cond (Nat.beq j k) v (f j) = f j
  rw [show Nat.beq j k = false from by cases hb : Nat.beq j k with
    | true => exact absurd (Nat.eq_of_beq_eq_true hb) h
    | false => rfl]
  rfl
/-- what every method finds of the tables -/
def Cx (D : va_G) (cI cP : ClassId) (U : State) : Prop := va_K D vwCl [(cI, .int), (cP, .object RX1)] U ∧ ∀ w ∈ NST, va_Nw w U
theorem nst_tab {w : Cond} (h : w ∈ NST) : w.onTables = true := by
  have h2 := (List.mem_filter.mp h).2
  cases w <;> first | rfl | (exact absurd h2 (by decide)) | (exact absurd h2 (by simp [nestW]))
theorem nw_warm {s U : State} (hW : s.WarmedH U.vm) {w : Cond} (h : w ∈ NST) (hz : va_Nw w s) : va_Nw w U := by
  have h2 := (List.mem_filter.mp h).2
  cases w <;> first | exact va_Nw.warmF hW hz | exact va_Nw.warmM hW hz | (exact absurd h2 (by simp [nestW]))
theorem Cx.warm {D : va_G} {cI cP : ClassId} {s U : State} (hW : s.WarmedH U.vm) (h : Cx D cI cP s) : Cx D cI cP U := ⟨va_K.moved hW.alike h.1, fun w hw => nw_warm hW hw (h.2 w hw)⟩
theorem Cx.calling {D : va_G} {cI cP : ClassId} {U : State} {g : JFrame} {mk : MethodId} {a : Array Value} (h : Cx D cI cP U) : Cx D cI cP (U.calling g mk a) := ⟨va_K.moved (u := U) (U := U.calling g mk a) (Vm.Alike.refl U.vm) h.1, fun w hw => va_Nw.same (nst_tab hw) (u := U) (U := U.calling g mk a) rfl (h.2 w hw)⟩
/-- the fixed facts of a method's walk -/
def Fx (p : Program) (s : State) (m : MethodId) (args : Array Value) (meth : Method) (c : Code) (own : String) (cc : ByteArray) (nL : Nat) (ret : Option FieldType) : Prop :=
  p.tables.exec = Jvm.exec ∧ c.code = cc ∧ c.maxLocals = nL ∧ s.vm.findClass own = some m.cls ∧ (∀ w ∈ ALL, w.before args s = true) ∧ meth.sig.returnType = ret ∧ meth.locks = false
theorem goodALL {y : MethodName} {bytes : ByteArray} {n : Nat} {ret : Option FieldType} (hcd : Cond.code y bytes n ret ∈ ALL) : GoodIn ALL (Cond.code y bytes n ret :: ALL) := by
  have key : ∀ w ∈ ALL, w ∈ ALL ∧ ((w.onTables && w.keeps) = true ∨ ∃ ty, w = .arrayClass ty) := fun w h => ⟨h, good_of_word (List.mem_filter.mp h).2⟩
  intro w hw
  rcases List.mem_cons.mp hw with rfl | h
  · exact key _ hcd
  · exact key w h
/-! readers -/
def MRd (l : Launch) (y : MethodName) (cc : ByteArray) (n : Nat) (ret : Option FieldType) (rm : Room) (D : va_G) (cI cP : ClassId) (As : List Value) (B : va_W) (r : Int32) : Prop :=
  ∀ sz : Nat, Met l y (Cond.code y cc n ret :: ALL) rm (va_Pc As (fun U => U.heap.size = sz ∧ Cx D cI cP U ∧ va_P D vwCl B U.heap)) (va_Qi (fun x (_ : Unit) => x = r) (fun _ _ => True) (fun q => sz ≤ q)) 0 0 (fun q => sz ≤ q)
def QR (below : List Frame) (args : Array Value) (s : State) (r : Int32) : State → Prop := MQ below (va_Qi (fun x (_ : Unit) => x = r) (fun _ _ => True) (fun q => s.heap.size ≤ q)) args s 0 0 (fun q => s.heap.size ≤ q)
theorem MRd.of {l : Launch} {y : MethodName} {cc : ByteArray} {n : Nat} {ret : Option FieldType} {rm : Room} {D : va_G} {cI cP : ClassId} {As : List Value} {B : va_W} {r : Int32}
    (hy : plainName y.cls = true) (hn : (lg_sl As).length ≤ n)
    (body : ∀ (p : Program) (e : Env) (s : State) (m : MethodId) (args : Array Value) (below : List Frame) (meth : Method) (c : Code) (ls : Array Slot), Fx p s m args meth c y.cls cc n ret → Cx D cI cP s → va_P D vwCl B s.heap → va_S (fun q => s.heap.size ≤ q) s.heap s.heap [] → lv_has ls n (lv_args 0 As) → W p l e rm s m args below meth c s.heap [] 0 0 (QR below args s r) (F0 m 0 ls [])) :
    MRd l y cc n ret rm D cI cP As B r := by
  intro sz
  refine Met.ofW (cc := cc) (maxL := n) (ret := ret) hy rfl ?_
  intro p e s m args below meth c s₁ B0 hml hv
  obtain ⟨rfl, hsz, hX, hP⟩ := hv
  subst hsz
  have hts := atoms_spec (ws := Cond.code y cc n ret :: ALL) B0.pre
  rw [lg_entry_eq]
  exact body p e s m _ below meth c _ ⟨B0.exec, B0.bytes, hml, findClass_of_methodNamed B0.named, fun w h => hts w (List.mem_cons_of_mem _ h), B0.returns, B0.notSynchronized⟩ hX hP va_S.rf (lv_entry As hn)
/-! writers -/
def MWi (l : Launch) (y : MethodName) (cc : ByteArray) (n : Nat) (ret : Option FieldType) (rm : Room) (D : va_G) (cI cP : ClassId) (As : List Value) (B B' : va_W) (r : Int32) : Prop :=
  ∀ sz : Nat, Met l y (Cond.code y cc n ret :: ALL) rm (va_Pc As (fun U => U.heap.size = sz ∧ Cx D cI cP U ∧ va_P D vwCl B U.heap ∧ va_D (fun _ => True) B)) (va_Qi (fun x (_ : Unit) => x = r) (fun _ t => va_P D vwCl B' t.heap) (va_A B sz)) 0 0 (va_A B sz)
def MWv (l : Launch) (y : MethodName) (cc : ByteArray) (n : Nat) (ret : Option FieldType) (rm : Room) (D : va_G) (cI cP : ClassId) (As : List Value) (B B' : va_W) : Prop :=
  ∀ sz : Nat, Met l y (Cond.code y cc n ret :: ALL) rm (va_Pc As (fun U => U.heap.size = sz ∧ Cx D cI cP U ∧ va_P D vwCl B U.heap ∧ va_D (fun _ => True) B)) (va_Qv (fun (_ : Unit) => True) (fun _ t => va_P D vwCl B' t.heap) (va_A B sz)) 0 0 (va_A B sz)
def QWi (D : va_G) (below : List Frame) (args : Array Value) (s : State) (A : Nat → Prop) (B' : va_W) (r : Int32) : State → Prop := MQ below (va_Qi (fun x (_ : Unit) => x = r) (fun _ t => va_P D vwCl B' t.heap) A) args s 0 0 A
def QWv (D : va_G) (below : List Frame) (args : Array Value) (s : State) (A : Nat → Prop) (B' : va_W) : State → Prop := MQ below (va_Qv (fun (_ : Unit) => True) (fun _ t => va_P D vwCl B' t.heap) A) args s 0 0 A
theorem MWi.of {l : Launch} {y : MethodName} {cc : ByteArray} {n : Nat} {ret : Option FieldType} {rm : Room} {D : va_G} {cI cP : ClassId} {As : List Value} {B B' : va_W} {r : Int32}
    (hy : plainName y.cls = true) (hn : (lg_sl As).length ≤ n)
    (body : ∀ (p : Program) (e : Env) (s : State) (m : MethodId) (args : Array Value) (below : List Frame) (meth : Method) (c : Code) (ls : Array Slot) (A : Nat → Prop), Fx p s m args meth c y.cls cc n ret → Cx D cI cP s → va_P D vwCl B s.heap → va_D A B → (∀ q : Nat, s.heap.size ≤ q → A q) → va_S A s.heap s.heap [] → lv_has ls n (lv_args 0 As) → W p l e rm s m args below meth c s.heap [] 0 0 (QWi D below args s A B' r) (F0 m 0 ls [])) :
    MWi l y cc n ret rm D cI cP As B B' r := by
  intro sz
  refine Met.ofW (cc := cc) (maxL := n) (ret := ret) hy rfl ?_
  intro p e s m args below meth c s₁ B0 hml hv
  obtain ⟨rfl, hsz, hX, hP, hD⟩ := hv
  subst hsz
  have hts := atoms_spec (ws := Cond.code y cc n ret :: ALL) B0.pre
  rw [lg_entry_eq]
  exact body p e s m _ below meth c _ _ ⟨B0.exec, B0.bytes, hml, findClass_of_methodNamed B0.named, fun w h => hts w (List.mem_cons_of_mem _ h), B0.returns, B0.notSynchronized⟩ hX hP (hD.self (sz := s.heap.size)) (fun q h => Or.inr h) va_S.rf (lv_entry As hn)
theorem MWv.of {l : Launch} {y : MethodName} {cc : ByteArray} {n : Nat} {ret : Option FieldType} {rm : Room} {D : va_G} {cI cP : ClassId} {As : List Value} {B B' : va_W}
    (hy : plainName y.cls = true) (hn : (lg_sl As).length ≤ n)
    (body : ∀ (p : Program) (e : Env) (s : State) (m : MethodId) (args : Array Value) (below : List Frame) (meth : Method) (c : Code) (ls : Array Slot) (A : Nat → Prop), Fx p s m args meth c y.cls cc n ret → Cx D cI cP s → va_P D vwCl B s.heap → va_D A B → (∀ q : Nat, s.heap.size ≤ q → A q) → va_S A s.heap s.heap [] → lv_has ls n (lv_args 0 As) → W p l e rm s m args below meth c s.heap [] 0 0 (QWv D below args s A B') (F0 m 0 ls [])) :
    MWv l y cc n ret rm D cI cP As B B' := by
  intro sz
  refine Met.ofW (cc := cc) (maxL := n) (ret := ret) hy rfl ?_
  intro p e s m args below meth c s₁ B0 hml hv
  obtain ⟨rfl, hsz, hX, hP, hD⟩ := hv
  subst hsz
  have hts := atoms_spec (ws := Cond.code y cc n ret :: ALL) B0.pre
  rw [lg_entry_eq]
  exact body p e s m _ below meth c _ _ ⟨B0.exec, B0.bytes, hml, findClass_of_methodNamed B0.named, fun w h => hts w (List.mem_cons_of_mem _ h), B0.returns, B0.notSynchronized⟩ hX hP (hD.self (sz := s.heap.size)) (fun q h => Or.inr h) va_S.rf (lv_entry As hn)
section ENDS
variable {p : Program} {l : Launch} {e : Env} {R : Room} {s : State} {m : MethodId} {args : Array Value} {below : List Frame} {meth : Method} {c : Code} {H : Heap} {locs : List Loc} {own : String} {cc : ByteArray} {nL pc : Nat} {ls : Array Slot} {D : va_G} {A : Nat → Prop} {B' : va_W} {r v : Int32}
theorem rd_i (F : Fx p s m args meth c own cc nL (some .int)) (hv : v = r) (hS : va_S (fun q => s.heap.size ≤ q) s.heap H locs) (hdg : decode cc pc = .ok (.ireturn, 1)) : W p l e R s m args below meth c H locs 0 0 (QR below args s r) (F0 m pc ls [.int v]) :=
  W.iret F.1 F.2.1 F.2.2.2.2.2.1 (fun t ht hW => ⟨⟨v, (), rfl, hv, trivial⟩, hS.F ht⟩) hS.2.2 hdg (hlocks := F.2.2.2.2.2.2)
theorem bool_narrow {v : Int32} (h : v = 0 ∨ v = 1) : narrow .boolean (.int v) = .int v := by rcases h with rfl | rfl <;> rfl
theorem rd_z (F : Fx p s m args meth c own cc nL (some .boolean)) (h01 : v = 0 ∨ v = 1) (hv : v = r) (hS : va_S (fun q => s.heap.size ≤ q) s.heap H locs) (hdg : decode cc pc = .ok (.ireturn, 1)) : W p l e R s m args below meth c H locs 0 0 (QR below args s r) (F0 m pc ls [.int v]) :=
  W.zret F.1 F.2.1 F.2.2.2.2.2.1 (bool_narrow h01) (fun t ht hW => ⟨⟨v, (), rfl, hv, trivial⟩, hS.F ht⟩) hS.2.2 hdg (hlocks := F.2.2.2.2.2.2)
theorem wr_i (F : Fx p s m args meth c own cc nL (some .int)) (hv : v = r) (hP : va_P D vwCl B' H) (hS : va_S A s.heap H locs) (hdg : decode cc pc = .ok (.ireturn, 1)) : W p l e R s m args below meth c H locs 0 0 (QWi D below args s A B' r) (F0 m pc ls [.int v]) :=
  W.iret F.1 F.2.1 F.2.2.2.2.2.1 (fun t ht hW => ⟨⟨v, (), rfl, hv, by show va_P D vwCl B' t.heap; rw [ht]; exact hP⟩, hS.F ht⟩) hS.2.2 hdg (hlocks := F.2.2.2.2.2.2)
theorem wr_z (F : Fx p s m args meth c own cc nL (some .boolean)) (h01 : v = 0 ∨ v = 1) (hv : v = r) (hP : va_P D vwCl B' H) (hS : va_S A s.heap H locs) (hdg : decode cc pc = .ok (.ireturn, 1)) : W p l e R s m args below meth c H locs 0 0 (QWi D below args s A B' r) (F0 m pc ls [.int v]) :=
  W.zret F.1 F.2.1 F.2.2.2.2.2.1 (bool_narrow h01) (fun t ht hW => ⟨⟨v, (), rfl, hv, by show va_P D vwCl B' t.heap; rw [ht]; exact hP⟩, hS.F ht⟩) hS.2.2 hdg (hlocks := F.2.2.2.2.2.2)
theorem wr_v (F : Fx p s m args meth c own cc nL none) (hP : va_P D vwCl B' H) (hS : va_S A s.heap H locs) (hdg : decode cc pc = .ok (.return_, 1)) : W p l e R s m args below meth c H locs 0 0 (QWv D below args s A B') (F0 m pc ls []) :=
  W.vret F.1 F.2.1 F.2.2.2.2.2.1 (fun t ht hW => ⟨⟨(), rfl, trivial, by show va_P D vwCl B' t.heap; rw [ht]; exact hP⟩, hS.F ht⟩) hS.2.2 hdg (hlocks := F.2.2.2.2.2.2)
end ENDS
/-! worlds by blocks -/
theorem vD_iff {A : Nat → Prop} {ws : va_W} : va_D A ws ↔ (ws.map (fun q => q.1)).Nodup ∧ ∀ q ∈ ws, A q.1 := by
  constructor
  · intro h
    refine ⟨?_, fun q hq => ?_⟩
    · rw [List.nodup_iff_pairwise_ne, List.pairwise_iff_getElem]
      intro i j hi hj hij he
      simp only [List.length_map] at hi hj
      simp only [List.getElem_map] at he
      have := h.1 i j _ _ (List.getElem?_eq_getElem hi) (List.getElem?_eq_getElem hj) he
      omega
    · obtain ⟨k, hk⟩ := List.getElem?_of_mem hq
      exact h.2 k q hk
  · intro h
    refine ⟨fun i j p q hi hj he => ?_, fun k q hk => h.2 q (List.mem_of_getElem? hk)⟩
    have h1 : (ws.map (fun q => q.1))[i]? = some p.1 := by rw [List.getElem?_map, hi]; rfl
    have h2 : (ws.map (fun q => q.1))[j]? = some p.1 := by rw [List.getElem?_map, hj, he]; rfl
    have hil : i < (ws.map (fun q => q.1)).length := (List.getElem?_eq_some_iff.mp h1).1
    exact (List.getElem?_inj hil h.1).mp (h1.trans h2.symm)
theorem vP_iff {D : va_G} {cl : List vw_C} {ws : va_W} {H : Heap} : va_P D cl ws H ↔ ∀ q ∈ ws, va_at D cl q H :=
  ⟨fun h q hq => by obtain ⟨k, hk⟩ := List.getElem?_of_mem hq; exact h k q hk, fun h k q hk => h q (List.mem_of_getElem? hk)⟩
theorem vA_iff {ws : va_W} {sz q : Nat} : va_A ws sz q ↔ q ∈ ws.map (fun q => q.1) ∨ sz ≤ q := by
  constructor
  · rintro (⟨k, e, h⟩ | h)
    · exact Or.inl (List.mem_map.mpr ⟨(q, e), List.mem_of_getElem? h, rfl⟩)
    · exact Or.inr h
  · rintro (h | h)
    · obtain ⟨⟨a, e⟩, h1, h2⟩ := List.mem_map.mp h
      obtain ⟨k, hk⟩ := List.getElem?_of_mem h1
      have h2 : a = q := h2
      subst h2
      exact Or.inl ⟨k, e, hk⟩
    · exact Or.inr h
theorem vD_same {A : Nat → Prop} {ws ws' : va_W} (h : ws'.map (fun q => q.1) = ws.map (fun q => q.1)) (hD : va_D A ws) : va_D A ws' := by
  have h1 := vD_iff.mp hD
  refine vD_iff.mpr ⟨by rw [h]; exact h1.1, fun q hq => ?_⟩
  have h2 : q.1 ∈ ws.map (fun q => q.1) := by rw [← h]; exact List.mem_map.mpr ⟨q, hq, rfl⟩
  obtain ⟨q', h3, h4⟩ := List.mem_map.mp h2
  rw [← h4]
  exact h1.2 q' h3
/-- what a call may touch of a world, and what the world is behind it -/
def Cut (ws wc w1 ws' : va_W) : Prop := (∀ q ∈ wc, q ∈ ws) ∧ ((ws.map (fun q => q.1)).Nodup → (wc.map (fun q => q.1)).Nodup) ∧ ((ws.map (fun q => q.1)).Nodup → ∀ q ∈ ws', q ∈ w1 ∨ (q ∈ ws ∧ q.1 ∉ wc.map (fun q => q.1))) ∧ ws'.map (fun q => q.1) = ws.map (fun q => q.1)
theorem Cut.all {ws w1 : va_W} (h : w1.map (fun q => q.1) = ws.map (fun q => q.1)) : Cut ws ws w1 w1 := ⟨fun _ h => h, fun h => h, fun _ _ h => Or.inl h, h⟩
theorem fl_get {α : Type} : ∀ {Bs : List (List α)} {k : Nat} {B : List α}, Bs[k]? = some B → ∃ X Y, Bs.flatten = X ++ B ++ Y ∧ ∀ B', (Bs.set k B').flatten = X ++ B' ++ Y
  | [], k, B, h => by simp at h
  | C :: Bs, 0, B, h => by
    have h : C = B := by simpa using h
    subst h
    exact ⟨[], Bs.flatten, by simp, fun B' => by simp⟩
  | C :: Bs, k + 1, B, h => by
    have h : Bs[k]? = some B := by simpa using h
    obtain ⟨X, Y, h1, h2⟩ := fl_get h
    exact ⟨C ++ X, Y, by simp [h1], fun B' => by simp [h2]⟩
theorem Cut.one {Bs : List va_W} {k : Nat} {B B' : va_W} (hk : Bs[k]? = some B) (h : B'.map (fun q => q.1) = B.map (fun q => q.1)) : Cut Bs.flatten B B' (Bs.set k B').flatten := by
  obtain ⟨X, Y, h1, h2⟩ := fl_get hk
  rw [h1, h2]
  refine ⟨fun q hq => by simp [hq], fun hn => ?_, fun hn q hq => ?_, by simp [h]⟩
  · simp only [List.map_append, List.append_assoc] at hn
    exact (List.nodup_append.mp (List.nodup_append.mp hn).2.1).1
  · simp only [List.map_append, List.append_assoc] at hn
    obtain ⟨-, hn2, hn3⟩ := List.nodup_append.mp hn
    obtain ⟨-, -, hn4⟩ := List.nodup_append.mp hn2
    simp only [List.append_assoc, List.mem_append] at hq
    rcases hq with hq | hq | hq
    · refine Or.inr ⟨by simp [hq], fun hz => ?_⟩
      exact hn3 _ (List.mem_map.mpr ⟨q, hq, rfl⟩) _ (List.mem_append.mpr (Or.inl hz)) rfl
    · exact Or.inl hq
    · refine Or.inr ⟨by simp [hq], fun hz => ?_⟩
      exact hn4 _ hz _ (List.mem_map.mpr ⟨q, hq, rfl⟩) rfl
/-- two blocks: the first is written, the second read -/
theorem Cut.two {Bs : List va_W} {k j : Nat} {B B' C : va_W} (hk : Bs[k]? = some B) (hj : Bs[j]? = some C) (hkj : k ≠ j) (h : B'.map (fun q => q.1) = B.map (fun q => q.1)) : Cut Bs.flatten (B ++ C) (B' ++ C) (Bs.set k B').flatten := by
  have h1 := Cut.one hk h
  have hC : ∀ q ∈ C, q ∈ Bs.flatten := fun q hq => List.mem_flatten.mpr ⟨C, List.mem_of_getElem? hj, hq⟩
  refine ⟨fun q hq => (List.mem_append.mp hq).elim (h1.1 q) (hC q), fun hn => ?_, fun hn q hq => ?_, h1.2.2.2⟩
  · have hb := h1.2.1 hn
    have hc := (Cut.one (B' := C) hj rfl).2.1 hn
    rw [List.map_append]
    refine List.nodup_append.mpr ⟨hb, hc, fun x hx y hy hxy => ?_⟩
    subst hxy
    obtain ⟨p, hp, e1⟩ := List.mem_map.mp hx
    obtain ⟨X, Y, g1, g2⟩ := fl_get hk
    obtain ⟨q, hq, e2⟩ := List.mem_map.mp hy
    have hq2 : q ∈ (Bs.set k []).flatten := List.mem_flatten.mpr ⟨C, List.mem_of_getElem? (by rw [List.getElem?_set_ne hkj]; exact hj), hq⟩
    rw [g2] at hq2
    rw [g1] at hn
    simp only [List.map_append, List.append_assoc] at hn
    obtain ⟨-, hn2, hn3⟩ := List.nodup_append.mp hn
    obtain ⟨-, -, hn4⟩ := List.nodup_append.mp hn2
    simp only [List.append_nil, List.mem_append] at hq2
    rcases hq2 with hq2 | hq2
    · exact hn3 _ (List.mem_map.mpr ⟨q, hq2, rfl⟩) _ (List.mem_append.mpr (Or.inl (List.mem_map.mpr ⟨p, hp, rfl⟩))) (e2.trans e1.symm)
    · exact hn4 _ (List.mem_map.mpr ⟨p, hp, rfl⟩) _ (List.mem_map.mpr ⟨q, hq2, rfl⟩) (e1.trans e2.symm)
  · by_cases hqC : q.1 ∈ C.map (fun q => q.1)
    · obtain ⟨q2, hq2, e2⟩ := List.mem_map.mp hqC
      have hn' : ((Bs.set k B').flatten.map (fun q => q.1)).Nodup := by rw [h1.2.2.2]; exact hn
      have hm2 : q2 ∈ (Bs.set k B').flatten := List.mem_flatten.mpr ⟨C, List.mem_of_getElem? (by rw [List.getElem?_set_ne hkj]; exact hj), hq2⟩
      have hD2 : va_D (fun _ => True) (Bs.set k B').flatten := vD_iff.mpr ⟨hn', fun _ _ => trivial⟩
      obtain ⟨i1, hi1⟩ := List.getElem?_of_mem hq
      obtain ⟨i2, hi2⟩ := List.getElem?_of_mem hm2
      have hii := hD2.1 i1 i2 _ _ hi1 hi2 e2.symm
      subst hii
      rw [hi1] at hi2
      cases hi2
      exact Or.inl (List.mem_append.mpr (Or.inr hq2))
    · rcases h1.2.2.1 hn q hq with h2 | ⟨h2, h3⟩
      · exact Or.inl (List.mem_append.mpr (Or.inl h2))
      · refine Or.inr ⟨h2, fun hz => ?_⟩
        rw [List.map_append] at hz
        exact (List.mem_append.mp hz).elim h3 hqC
theorem va_blk {D : va_G} {cl : List vw_C} {Bs : List va_W} {H : Heap} (h : va_P D cl Bs.flatten H) (k : Nat) {B : va_W} (hk : Bs[k]? = some B) : va_P D cl B H :=
  vP_iff.mpr fun q hq => vP_iff.mp h q (List.mem_flatten.mpr ⟨B, List.mem_of_getElem? hk, hq⟩)
theorem vP_app {D : va_G} {cl : List vw_C} {w1 w2 : va_W} {H : Heap} (h1 : va_P D cl w1 H) (h2 : va_P D cl w2 H) : va_P D cl (w1 ++ w2) H := h1.app h2
/-- an array's contents are told by its places alone -/
theorem vp_congr {cA : ClassId} {n : Nat} {f g : Nat → Int32} (h : ∀ i, i < n → f i = g i) : vp_cell cA (n, .inl f) = vp_cell cA (n, .inl g) := by
  rw [vp_cell_i, vp_cell_i]
  unfold arrV
  congr 2
  funext j
  exact congrArg Value.int (h j.val j.isLt)
section CALLS
variable {p : Program} {l : Launch} {e : Env} {R : Room} {s : State} {m : MethodId} {args : Array Value} {below : List Frame} {meth : Method} {c : Code} {H H0 : Heap} {locs : List Loc} {cells slots : Nat} {Q : State → Prop}
variable {own host : String} {cc bytes : ByteArray} {nL pc maxL n idx q0 ci N : Nat} {T : u_T} {ls : Array Slot} {st0 rest As : List Value} {ret0 ret : Option FieldType} {y : MethodName} {rm : Room} {D : va_G} {cI cP : ClassId} {b : Nat} {B B' ws ws' : va_W} {r : Int32} {fs : List Value} {A0 : Nat → Prop}
/-- how a method is reached: its words -/
def WdV (own : String) (idx : Nat) (y : MethodName) (bytes : ByteArray) (maxL : Nat) (ret : Option FieldType) (n : Nat) : Prop :=
  Cond.methodLink own idx y ∈ ALL ∧ Cond.instanceMethod y ∈ ALL ∧ Cond.selects y.cls y y ∈ ALL ∧ Cond.initialized y.cls ∈ ALL ∧ Cond.code y bytes maxL ret ∈ ALL ∧ y.cls ≠ "java/lang/invoke/MethodHandle" ∧ y.cls ≠ "java/lang/invoke/VarHandle" ∧ (parseMethodDescriptor y.desc).map (fun d => d.parameters.length) = some n
def WdN (own host : String) (idx : Nat) (y : MethodName) (bytes : ByteArray) (maxL : Nat) (ret : Option FieldType) (n : Nat) : Prop :=
  Cond.methodLinkNest own idx y host ∈ NST ∧ Cond.instanceMethod y ∈ ALL ∧ Cond.selects y.cls y y ∈ ALL ∧ Cond.initialized y.cls ∈ ALL ∧ Cond.code y bytes maxL ret ∈ ALL ∧ y.cls ≠ "java/lang/invoke/MethodHandle" ∧ y.cls ≠ "java/lang/invoke/VarHandle" ∧ (parseMethodDescriptor y.desc).map (fun d => d.parameters.length) = some n
def WdS (own : String) (idx : Nat) (y : MethodName) (bytes : ByteArray) (maxL : Nat) (ret : Option FieldType) (n : Nat) : Prop :=
  Cond.methodLink own idx y ∈ ALL ∧ Cond.static y ∈ ALL ∧ Cond.initialized y.cls ∈ ALL ∧ Cond.code y bytes maxL ret ∈ ALL ∧ y.cls ≠ "java/lang/invoke/MethodHandle" ∧ y.cls ≠ "java/lang/invoke/VarHandle" ∧ (parseMethodDescriptor y.desc).map (fun d => d.parameters.length) = some n
def WdSN (own host : String) (idx : Nat) (y : MethodName) (bytes : ByteArray) (maxL : Nat) (ret : Option FieldType) (n : Nat) : Prop :=
  Cond.methodLinkNest own idx y host ∈ NST ∧ Cond.static y ∈ ALL ∧ Cond.initialized y.cls ∈ ALL ∧ Cond.code y bytes maxL ret ∈ ALL ∧ y.cls ≠ "java/lang/invoke/MethodHandle" ∧ y.cls ≠ "java/lang/invoke/VarHandle" ∧ (parseMethodDescriptor y.desc).map (fun d => d.parameters.length) = some n
/-- the run of a method, by any of the four ways -/
def Run (p : Program) (l : Launch) (e : Env) (R : Room) (s : State) (m : MethodId) (args : Array Value) (below : List Frame) (meth : Method) (c : Code) (own : String) (cc : ByteArray) (nL : Nat) (ret0 : Option FieldType) (y : MethodName) (bytes : ByteArray) (maxL : Nat) (ret : Option FieldType) (rm : Room) (As : List Value) (pc : Nat) (ls : Array Slot) (st0 rest : List Value) (H : Heap) (cells slots : Nat) (recv : Prop) : Prop :=
  ∀ (Pc : Array Value → State → Prop) (Qc : Array Value → State → Outcome → State → Prop) (free : Addr → Prop) (locs : List Loc), Met l y (Cond.code y bytes maxL ret :: ALL) rm Pc Qc 0 0 free → FrameBlind Pc → recv → (∀ U : State, U.heap = H → s.WarmedH U.vm → Pc As.toArray U) → va_Run p l e R s m args below meth c H locs cells slots 0 0 (F0 m pc ls st0) rest (Qc As.toArray) free
abbrev Rcv (s : State) (H : Heap) (C : String) (b : Nat) : Prop := ∃ cellB : Cell, H[b]? = some cellB ∧ cellB.vm.isStatics = false ∧ s.vm.findClass C = some cellB.cls
theorem runV (F : Fx p s m args meth c own cc nL ret0) (w : WdV own idx y bytes maxL ret n) (hrm : rm.cells = 0 ∧ rm.slots = 0) (hR : rm.frames + 1 ≤ R.frames ∧ 8 + (maxL + 11) + rm.locals ≤ R.locals) (hsz : ls.size = nL) (hn : As.length = n) (hst : st0 = As.reverse ++ .ref b :: rest) (hW : (rest.map fun v => v.category).sum ≤ 8) (hdg : decode cc pc = .ok (.invokevirtual idx, 3)) (hf : cells ≤ R.cells ∧ slots ≤ R.slots) :
    Run p l e R s m args below meth c own cc nL ret0 y bytes maxL ret rm (.ref b :: As) pc ls st0 rest H cells slots (Rcv s H y.cls b) := by
  intro Pc Qc free locs hM hfb hr hPc
  obtain ⟨w1, w2, w3, w4, w5, w6⟩ := w
  have ha := F.2.2.2.2.1
  exact va_runV (own := own) (C := y.cls) (Ts := ALL) ⟨F.1, F.2.1, F.2.2.1, F.2.2.2.1, ha⟩ hM ⟨callB_of n ha (goodALL w5) rfl hrm.1 hrm.2 (ha _ w4) (ha _ w1) w6 hR, ha _ w2, ha _ w3⟩ ⟨hfb, hr, hPc⟩ rfl hn hsz hst (lv_room hW) hdg hf
theorem runVN (F : Fx p s m args meth c own cc nL ret0) (hX : Cx D cI cP s) (w : WdN own host idx y bytes maxL ret n) (hrm : rm.cells = 0 ∧ rm.slots = 0) (hR : rm.frames + 1 ≤ R.frames ∧ 8 + (maxL + 11) + rm.locals ≤ R.locals) (hsz : ls.size = nL) (hn : As.length = n) (hst : st0 = As.reverse ++ .ref b :: rest) (hW : (rest.map fun v => v.category).sum ≤ 8) (hdg : decode cc pc = .ok (.invokevirtual idx, 3)) (hf : cells ≤ R.cells ∧ slots ≤ R.slots) :
    Run p l e R s m args below meth c own cc nL ret0 y bytes maxL ret rm (.ref b :: As) pc ls st0 rest H cells slots (Rcv s H y.cls b) := by
  intro Pc Qc free locs hM hfb hr hPc
  obtain ⟨w1, w2, w3, w4, w5, w6⟩ := w
  have ha := F.2.2.2.2.1
  exact va_runVN (own := own) (C := y.cls) (host := host) (Ts := ALL) ⟨F.1, F.2.1, F.2.2.1, F.2.2.2.1, ha⟩ hM ⟨va_cnB n ha (goodALL w5) rfl hrm.1 hrm.2 (hX.2 _ w1) (ha _ w4) w6 hR, ha _ w2, ha _ w3⟩ ⟨hfb, hr, hPc⟩ rfl hn hsz hst (lv_room hW) hdg hf
theorem runS (F : Fx p s m args meth c own cc nL ret0) (w : WdS own idx y bytes maxL ret n) (hrm : rm.cells = 0 ∧ rm.slots = 0) (hR : rm.frames + 1 ≤ R.frames ∧ 8 + (maxL + 11) + rm.locals ≤ R.locals) (hsz : ls.size = nL) (hn : As.length = n) (hst : st0 = As.reverse ++ rest) (hW : (rest.map fun v => v.category).sum ≤ 8) (hdg : decode cc pc = .ok (.invokestatic idx, 3)) (hf : cells ≤ R.cells ∧ slots ≤ R.slots) :
    Run p l e R s m args below meth c own cc nL ret0 y bytes maxL ret rm As pc ls st0 rest H cells slots True := by
  intro Pc Qc free locs hM hfb hr hPc
  obtain ⟨w1, w2, w4, w5, w6⟩ := w
  have ha := F.2.2.2.2.1
  exact va_runS (own := own) (Ts := ALL) ⟨F.1, F.2.1, F.2.2.1, F.2.2.2.1, ha⟩ hM ⟨callB_of n ha (goodALL w5) rfl hrm.1 hrm.2 (ha _ w4) (ha _ w1) w6 hR, ha _ w2⟩ ⟨hfb, hPc⟩ rfl hn hsz hst (lv_room hW) hdg hf
theorem runSN (F : Fx p s m args meth c own cc nL ret0) (hX : Cx D cI cP s) (w : WdSN own host idx y bytes maxL ret n) (hrm : rm.cells = 0 ∧ rm.slots = 0) (hR : rm.frames + 1 ≤ R.frames ∧ 8 + (maxL + 11) + rm.locals ≤ R.locals) (hsz : ls.size = nL) (hn : As.length = n) (hst : st0 = As.reverse ++ rest) (hW : (rest.map fun v => v.category).sum ≤ 8) (hdg : decode cc pc = .ok (.invokestatic idx, 3)) (hf : cells ≤ R.cells ∧ slots ≤ R.slots) :
    Run p l e R s m args below meth c own cc nL ret0 y bytes maxL ret rm As pc ls st0 rest H cells slots True := by
  intro Pc Qc free locs hM hfb hr hPc
  obtain ⟨w1, w2, w4, w5, w6⟩ := w
  have ha := F.2.2.2.2.1
  exact va_runSN (own := own) (host := host) (Ts := ALL) ⟨F.1, F.2.1, F.2.2.1, F.2.2.2.1, ha⟩ hM ⟨va_cnB n ha (goodALL w5) rfl hrm.1 hrm.2 (hX.2 _ w1) (ha _ w4) w6 hR, ha _ w2, trivial⟩ ⟨hfb, hPc⟩ rfl hn hsz hst (lv_room hW) hdg hf
/-- a reader is called: the world stays -/
theorem k_rd {recv : Prop} (hr : Run p l e R s m args below meth c own cc nL ret0 y bytes maxL ret rm As pc ls st0 rest H cells slots recv) (hM : MRd l y bytes maxL ret rm D cI cP As B r) (hX : Cx D cI cP s) (hrc : recv) (hPB : va_P D vwCl B H) (hP : va_P D vwCl ws H) (hS : va_S A0 H0 H locs) (hA : ∀ q, H0.size ≤ q → A0 q)
    (kk : ∀ (H1 : Heap) (locs1 : List Loc), va_P D vwCl ws H1 → va_S A0 H0 H1 locs1 → W p l e R s m args below meth c H1 locs1 cells slots Q (F0 m (pc + 3) ls (.int r :: rest))) : W p l e R s m args below meth c H locs cells slots Q (F0 m pc ls st0) := by
  refine va_calli (hr _ _ _ locs (hM H.size) (fun a U g mk q => ⟨q.1, q.2.1, q.2.2.1.calling, q.2.2.2⟩) hrc (fun U hU hW => ⟨rfl, by rw [hU], hX.warm hW, by rw [hU]; exact hPB⟩)) hS (fun q h1 h2 => absurd h1 (Nat.not_lt.mpr h2)) (fun q h => hA q (Nat.le_trans hS.1 h)) (fun r' u t H1 locs1 ht hvm hw hB hz1 hk1 hS1 => ?_)
  subst hw
  exact kk H1 locs1 (hP.kept (fun k q hk => hk1 q.1 (hP k q hk).lt (fun z => absurd (hP k q hk).lt (Nat.not_lt.mpr z)))) hS1
theorem cut_back (hC : Cut ws B B' ws') (hP : va_P D vwCl ws H) (hD : va_D A0 ws) {H1 : Heap} (hk1 : ∀ q : Nat, q < H.size → ¬ va_A B H.size q → H1[q]? = H[q]?) (hP1 : va_P D vwCl B' H1) : va_P D vwCl ws' H1 ∧ va_D A0 ws' := by
  have hn := (vD_iff.mp hD).1
  refine ⟨vP_iff.mpr fun q hq => ?_, vD_same hC.2.2.2 hD⟩
  rcases hC.2.2.1 hn q hq with h | ⟨h1, h2⟩
  · exact vP_iff.mp hP1 q h
  · have h3 := vP_iff.mp hP q h1
    exact h3.kept (hk1 q.1 h3.lt (fun z => (vA_iff.mp z).elim h2 (fun z => absurd h3.lt (Nat.not_lt.mpr z))))
theorem cut_free (hC : Cut ws B B' ws') (hD : va_D A0 ws) (hS : va_S A0 H0 H locs) (hA : ∀ q, H0.size ≤ q → A0 q) : ∀ q, va_A B H.size q → A0 q := by
  intro q h
  rcases vA_iff.mp h with h | h
  · obtain ⟨q2, h1, h2⟩ := List.mem_map.mp h
    rw [← h2]
    exact (vD_iff.mp hD).2 q2 (hC.1 q2 h1)
  · exact hA q (Nat.le_trans hS.1 h)
theorem cut_P (hC : Cut ws B B' ws') (hP : va_P D vwCl ws H) : va_P D vwCl B H := vP_iff.mpr fun q hq => vP_iff.mp hP q (hC.1 q hq)
theorem cut_D (hC : Cut ws B B' ws') (hD : va_D A0 ws) : va_D (fun _ => True) B := vD_iff.mpr ⟨hC.2.1 (vD_iff.mp hD).1, fun _ _ => trivial⟩
/-- a writer that answers -/
theorem k_wi {recv : Prop} (hr : Run p l e R s m args below meth c own cc nL ret0 y bytes maxL ret rm As pc ls st0 rest H cells slots recv) (hM : MWi l y bytes maxL ret rm D cI cP As B B' r) (hX : Cx D cI cP s) (hrc : recv) (hC : Cut ws B B' ws') (hP : va_P D vwCl ws H) (hD : va_D A0 ws) (hS : va_S A0 H0 H locs) (hA : ∀ q, H0.size ≤ q → A0 q)
    (kk : ∀ (H1 : Heap) (locs1 : List Loc), va_P D vwCl ws' H1 → va_D A0 ws' → va_S A0 H0 H1 locs1 → W p l e R s m args below meth c H1 locs1 cells slots Q (F0 m (pc + 3) ls (.int r :: rest))) : W p l e R s m args below meth c H locs cells slots Q (F0 m pc ls st0) := by
  have hF := cut_free hC hD hS hA
  refine va_calli (hr _ _ _ locs (hM H.size) (fun a U g mk q => ⟨q.1, q.2.1, q.2.2.1.calling, q.2.2.2⟩) hrc (fun U hU hW => ⟨rfl, by rw [hU], hX.warm hW, by rw [hU]; exact cut_P hC hP, cut_D hC hD⟩)) hS (fun q _ h => hF q h) hF (fun r' u t H1 locs1 ht hvm hw hB hz1 hk1 hS1 => ?_)
  subst hw
  rw [ht] at hB
  obtain ⟨hP2, hD2⟩ := cut_back hC hP hD hk1 hB
  exact kk H1 locs1 hP2 hD2 hS1
theorem k_wv {recv : Prop} (hr : Run p l e R s m args below meth c own cc nL ret0 y bytes maxL ret rm As pc ls st0 rest H cells slots recv) (hM : MWv l y bytes maxL ret rm D cI cP As B B') (hX : Cx D cI cP s) (hrc : recv) (hC : Cut ws B B' ws') (hP : va_P D vwCl ws H) (hD : va_D A0 ws) (hS : va_S A0 H0 H locs) (hA : ∀ q, H0.size ≤ q → A0 q)
    (kk : ∀ (H1 : Heap) (locs1 : List Loc), va_P D vwCl ws' H1 → va_D A0 ws' → va_S A0 H0 H1 locs1 → W p l e R s m args below meth c H1 locs1 cells slots Q (F0 m (pc + 3) ls rest)) : W p l e R s m args below meth c H locs cells slots Q (F0 m pc ls st0) := by
  have hF := cut_free hC hD hS hA
  refine va_callv (hr _ _ _ locs (hM H.size) (fun a U g mk q => ⟨q.1, q.2.1, q.2.2.1.calling, q.2.2.2⟩) hrc (fun U hU hW => ⟨rfl, by rw [hU], hX.warm hW, by rw [hU]; exact cut_P hC hP, cut_D hC hD⟩)) hS (fun q _ h => hF q h) hF (fun u t H1 locs1 ht hvm hw hB hz1 hk1 hS1 => ?_)
  rw [ht] at hB
  obtain ⟨hP2, hD2⟩ := cut_back hC hP hD hk1 hB
  exact kk H1 locs1 hP2 hD2 hS1
end CALLS
theorem ob {α β : Type} {x : Option α} {k : α → Option β} {u : β} (h : x.bind k = some u) : ∃ r, x = some r ∧ k r = some u := by
  cases x with
  | none => cases h
  | some r => exact ⟨r, rfl, h⟩
end
section
/-! worlds: what the cells of an object and of all that it owns hold, out of a value -/
abbrev SBook : Type := (Nat → Int32) × (Nat → Int32)
abbrev SStr : Type := (Nat → Nat → Int32) × (Nat → Int32)
abbrev SPar : Type := (Nat → Nat → Int32) × (Nat → Int32) × SStr × SBook
abbrev STxt : Type := (Nat → Int32) × (Nat → Int32) × (Nat → Int32)
abbrev STrn : Type := (Nat → Int32) × (Nat → Int32)
abbrev SMod : Type := (Nat → Nat → Int32) × (Nat → Int32)
abbrev SMain : Type := (Nat → Int32) × STxt × STrn × SPar × SPar × (Nat → SPar)
def wRow (cI : ClassId) (r d n : Nat) (f : Nat → Int32) : va_W := [(r, .inr (2, [.ref d])), (d, .inl (cI, n, .inl f))]
def bBook (cI : ClassId) (a : Nat → Nat) (K : SBook) : List va_W := [[(a 0, .inr (0, [.ref (a 1), .int (K.2 0), .int (K.2 1)]))], wRow cI (a 1) (a 2) 32 K.1]
def wBook (cI : ClassId) (a : Nat → Nat) (K : SBook) : va_W := (bBook cI a K).flatten
def bStr (cI : ClassId) (a : Nat → Nat) (K : SStr) : List va_W := [[(a 0, .inr (3, [.ref (a 1), .ref (a 3), .ref (a 5), .ref (a 7), .int (K.2 0), .int (K.2 1)]))], wRow cI (a 1) (a 2) 20 (K.1 0), wRow cI (a 3) (a 4) 20 (K.1 1), wRow cI (a 5) (a 6) 20 (K.1 2), wRow cI (a 7) (a 8) 20 (K.1 3)]
def wStr (cI : ClassId) (a : Nat → Nat) (K : SStr) : va_W := (bStr cI a K).flatten
def bPar (cI : ClassId) (a : Nat → Nat) (K : SPar) : List va_W := [[(a 0, .inr (1, [.ref (a 1), .ref (a 3), .ref (a 5), .ref (a 7), .ref (a 9), .ref (a 11), .ref (a 13), .ref (a 22), .int (K.2.1 0), .int (K.2.1 1), .int (K.2.1 2), .int (K.2.1 3), .int (K.2.1 4)]))], wRow cI (a 1) (a 2) 12 (K.1 0), wRow cI (a 3) (a 4) 12 (K.1 1), wRow cI (a 5) (a 6) 12 (K.1 2), wRow cI (a 7) (a 8) 12 (K.1 3), wRow cI (a 9) (a 10) 12 (K.1 4), wRow cI (a 11) (a 12) 12 (K.1 5), wStr cI (fun k => a (13 + k)) K.2.2.1, wBook cI (fun k => a (22 + k)) K.2.2.2]
def wPar (cI : ClassId) (a : Nat → Nat) (K : SPar) : va_W := (bPar cI a K).flatten
def bTxt (cI : ClassId) (a : Nat → Nat) (K : STxt) : List va_W := [[(a 0, .inr (4, [.ref (a 1), .int (K.2.2 0), .int (K.2.2 1), .ref (a 3), .int (K.2.2 2)]))], wRow cI (a 1) (a 2) 60 K.1, wRow cI (a 3) (a 4) 3 K.2.1]
def wTxt (cI : ClassId) (a : Nat → Nat) (K : STxt) : va_W := (bTxt cI a K).flatten
def bTrn (cI : ClassId) (a : Nat → Nat) (K : STrn) : List va_W := [[(a 0, .inr (5, [.ref (a 1), .int (K.2 0), .int (K.2 1)]))], wRow cI (a 1) (a 2) 12 K.1]
def wTrn (cI : ClassId) (a : Nat → Nat) (K : STrn) : va_W := (bTrn cI a K).flatten
/-- the reference: rows 0 s, 1 past, 2 held, 3 text, 4 low, 5 side, 6 vote, 7 gain, 8 numbers; ints 0 pasts, 1 runs, 2 typed, 3 spot, 4 from, 5 reason, 6 cause, 7 orders, 8 order -/
def bMod (cI : ClassId) (a : Nat → Nat) (K : SMod) : List va_W := [[(a 0, .inr (7, [.ref (a 1), .ref (a 2), .ref (a 3), .int (K.2 0), .int (K.2 1), .ref (a 4), .int (K.2 2), .ref (a 5), .ref (a 6), .ref (a 7), .ref (a 8), .int (K.2 3), .int (K.2 4), .int (K.2 5), .int (K.2 6), .int (K.2 7), .int (K.2 8), .ref (a 9)]))], [(a 1, .inl (cI, 156, .inl (K.1 0)))], [(a 2, .inl (cI, 624, .inl (K.1 1)))], [(a 3, .inl (cI, 156, .inl (K.1 2)))], [(a 4, .inl (cI, 60, .inl (K.1 3)))], [(a 5, .inl (cI, 12, .inl (K.1 4)))], [(a 6, .inl (cI, 12, .inl (K.1 5)))], [(a 7, .inl (cI, 12, .inl (K.1 6)))], [(a 8, .inl (cI, 12, .inl (K.1 7)))], [(a 9, .inl (cI, 3, .inl (K.1 8)))]]
def wMod (cI : ClassId) (a : Nat → Nat) (K : SMod) : va_W := (bMod cI a K).flatten
/-- the class: A 0 now's addresses, A 1 trial's, A 2 .. A 5 the past's; o the object, the past's row, the text's, the turns' -/
def bMain (cI cP : ClassId) (o h : Nat) (t u : Nat → Nat) (A : Nat → Nat → Nat) (K : SMain) : List va_W := [[(o, .inr (6, [.ref (A 0 0), .ref (A 1 0), .ref h, .int (K.1 0), .int (K.1 1), .ref (u 0), .ref (t 0), .int (K.1 2), .int (K.1 3), .int (K.1 4), .int (K.1 5)]))], [(h, .inl (cP, 4, .inr (.inr (.inr (.inr (fun i => some (A (2 + i) 0)))))))], wTxt cI t K.2.1, wTrn cI u K.2.2.1, wPar cI (A 0) K.2.2.2.1, wPar cI (A 1) K.2.2.2.2.1, wPar cI (A 2) (K.2.2.2.2.2 0), wPar cI (A 3) (K.2.2.2.2.2 1), wPar cI (A 4) (K.2.2.2.2.2 2), wPar cI (A 5) (K.2.2.2.2.2 3)]
def wMain (cI cP : ClassId) (o h : Nat) (t u : Nat → Nat) (A : Nat → Nat → Nat) (K : SMain) : va_W := (bMain cI cP o h t u A K).flatten
section FLD
variable {p : Program} {l : Launch} {e : Env} {R : Room} {s : State} {m : MethodId} {args : Array Value} {below : List Frame} {meth : Method} {c : Code} {H H0 : Heap} {locs : List Loc} {cells slots : Nat} {Q : State → Prop}
variable {cc : ByteArray} {nL pc : Nat} {ls : Array Slot} {rest : List Value} {ret0 : Option FieldType} {D : va_G} {cI cP : ClassId} {ws : va_W} {fs : List Value} {A : Nat → Prop} {b : Nat}
theorem gX2_13 (F : Fx p s m args meth c RX2 cc nL ret0) (hX : Cx D cI cP s) (hP : va_P D vwCl ws H) (q0 : Nat) (he : ws[q0]? = some (b, .inr (2, fs))) {v : Value} (hv : fs[0]? = some v) (hdg : decode cc pc = .ok (.getfield 13, 3)) (kk : W p l e R s m args below meth c H locs cells slots Q (F0 m (pc + 3) ls (v :: rest))) : W p l e R s m args below meth c H locs cells slots Q (F0 m pc ls (.ref b :: rest)) :=
  va_get F.1 F.2.1 F.2.2.2.2.1 uw_X2 F.2.2.2.1 hX.1 hP q0 he rfl 0 (by decide) (F.2.2.2.2.1 _ q_135) (fun _ h => h) hv hdg kk
theorem gX3_14 (F : Fx p s m args meth c RX3 cc nL ret0) (hX : Cx D cI cP s) (hP : va_P D vwCl ws H) (q0 : Nat) (he : ws[q0]? = some (b, .inr (3, fs))) {v : Value} (hv : fs[0]? = some v) (hdg : decode cc pc = .ok (.getfield 14, 3)) (kk : W p l e R s m args below meth c H locs cells slots Q (F0 m (pc + 3) ls (v :: rest))) : W p l e R s m args below meth c H locs cells slots Q (F0 m pc ls (.ref b :: rest)) :=
  va_get F.1 F.2.1 F.2.2.2.2.1 uw_X3 F.2.2.2.1 hX.1 hP q0 he rfl 0 (by decide) (F.2.2.2.2.1 _ q_148) (fun _ h => h) hv hdg kk
theorem gX6_123 (F : Fx p s m args meth c RX6 cc nL ret0) (hX : Cx D cI cP s) (hP : va_P D vwCl ws H) (q0 : Nat) (he : ws[q0]? = some (b, .inr (3, fs))) {v : Value} (hv : fs[0]? = some v) (hdg : decode cc pc = .ok (.getfield 123, 3)) (kk : W p l e R s m args below meth c H locs cells slots Q (F0 m (pc + 3) ls (v :: rest))) : W p l e R s m args below meth c H locs cells slots Q (F0 m pc ls (.ref b :: rest)) :=
  va_getN F.1 F.2.1 F.2.2.2.2.1 uw_X3 F.2.2.2.1 hX.1 hP q0 he rfl 0 (by decide) (va_Nw.use rfl (hX.2 _ q_149)) (fun _ h => h) hv hdg kk
theorem gX1_145 (F : Fx p s m args meth c RX1 cc nL ret0) (hX : Cx D cI cP s) (hP : va_P D vwCl ws H) (q0 : Nat) (he : ws[q0]? = some (b, .inr (3, fs))) {v : Value} (hv : fs[0]? = some v) (hdg : decode cc pc = .ok (.getfield 145, 3)) (kk : W p l e R s m args below meth c H locs cells slots Q (F0 m (pc + 3) ls (v :: rest))) : W p l e R s m args below meth c H locs cells slots Q (F0 m pc ls (.ref b :: rest)) :=
  va_getN F.1 F.2.1 F.2.2.2.2.1 uw_X3 F.2.2.2.1 hX.1 hP q0 he rfl 0 (by decide) (va_Nw.use rfl (hX.2 _ q_150)) (fun _ h => h) hv hdg kk
theorem gX3_20 (F : Fx p s m args meth c RX3 cc nL ret0) (hX : Cx D cI cP s) (hP : va_P D vwCl ws H) (q0 : Nat) (he : ws[q0]? = some (b, .inr (3, fs))) {v : Value} (hv : fs[1]? = some v) (hdg : decode cc pc = .ok (.getfield 20, 3)) (kk : W p l e R s m args below meth c H locs cells slots Q (F0 m (pc + 3) ls (v :: rest))) : W p l e R s m args below meth c H locs cells slots Q (F0 m pc ls (.ref b :: rest)) :=
  va_get F.1 F.2.1 F.2.2.2.2.1 uw_X3 F.2.2.2.1 hX.1 hP q0 he rfl 1 (by decide) (F.2.2.2.2.1 _ q_151) (fun _ h => h) hv hdg kk
theorem gX6_126 (F : Fx p s m args meth c RX6 cc nL ret0) (hX : Cx D cI cP s) (hP : va_P D vwCl ws H) (q0 : Nat) (he : ws[q0]? = some (b, .inr (3, fs))) {v : Value} (hv : fs[1]? = some v) (hdg : decode cc pc = .ok (.getfield 126, 3)) (kk : W p l e R s m args below meth c H locs cells slots Q (F0 m (pc + 3) ls (v :: rest))) : W p l e R s m args below meth c H locs cells slots Q (F0 m pc ls (.ref b :: rest)) :=
  va_getN F.1 F.2.1 F.2.2.2.2.1 uw_X3 F.2.2.2.1 hX.1 hP q0 he rfl 1 (by decide) (va_Nw.use rfl (hX.2 _ q_152)) (fun _ h => h) hv hdg kk
theorem gX1_148 (F : Fx p s m args meth c RX1 cc nL ret0) (hX : Cx D cI cP s) (hP : va_P D vwCl ws H) (q0 : Nat) (he : ws[q0]? = some (b, .inr (3, fs))) {v : Value} (hv : fs[1]? = some v) (hdg : decode cc pc = .ok (.getfield 148, 3)) (kk : W p l e R s m args below meth c H locs cells slots Q (F0 m (pc + 3) ls (v :: rest))) : W p l e R s m args below meth c H locs cells slots Q (F0 m pc ls (.ref b :: rest)) :=
  va_getN F.1 F.2.1 F.2.2.2.2.1 uw_X3 F.2.2.2.1 hX.1 hP q0 he rfl 1 (by decide) (va_Nw.use rfl (hX.2 _ q_153)) (fun _ h => h) hv hdg kk
theorem gX3_23 (F : Fx p s m args meth c RX3 cc nL ret0) (hX : Cx D cI cP s) (hP : va_P D vwCl ws H) (q0 : Nat) (he : ws[q0]? = some (b, .inr (3, fs))) {v : Value} (hv : fs[2]? = some v) (hdg : decode cc pc = .ok (.getfield 23, 3)) (kk : W p l e R s m args below meth c H locs cells slots Q (F0 m (pc + 3) ls (v :: rest))) : W p l e R s m args below meth c H locs cells slots Q (F0 m pc ls (.ref b :: rest)) :=
  va_get F.1 F.2.1 F.2.2.2.2.1 uw_X3 F.2.2.2.1 hX.1 hP q0 he rfl 2 (by decide) (F.2.2.2.2.1 _ q_154) (fun _ h => h) hv hdg kk
theorem gX6_129 (F : Fx p s m args meth c RX6 cc nL ret0) (hX : Cx D cI cP s) (hP : va_P D vwCl ws H) (q0 : Nat) (he : ws[q0]? = some (b, .inr (3, fs))) {v : Value} (hv : fs[2]? = some v) (hdg : decode cc pc = .ok (.getfield 129, 3)) (kk : W p l e R s m args below meth c H locs cells slots Q (F0 m (pc + 3) ls (v :: rest))) : W p l e R s m args below meth c H locs cells slots Q (F0 m pc ls (.ref b :: rest)) :=
  va_getN F.1 F.2.1 F.2.2.2.2.1 uw_X3 F.2.2.2.1 hX.1 hP q0 he rfl 2 (by decide) (va_Nw.use rfl (hX.2 _ q_155)) (fun _ h => h) hv hdg kk
theorem gX1_159 (F : Fx p s m args meth c RX1 cc nL ret0) (hX : Cx D cI cP s) (hP : va_P D vwCl ws H) (q0 : Nat) (he : ws[q0]? = some (b, .inr (3, fs))) {v : Value} (hv : fs[2]? = some v) (hdg : decode cc pc = .ok (.getfield 159, 3)) (kk : W p l e R s m args below meth c H locs cells slots Q (F0 m (pc + 3) ls (v :: rest))) : W p l e R s m args below meth c H locs cells slots Q (F0 m pc ls (.ref b :: rest)) :=
  va_getN F.1 F.2.1 F.2.2.2.2.1 uw_X3 F.2.2.2.1 hX.1 hP q0 he rfl 2 (by decide) (va_Nw.use rfl (hX.2 _ q_156)) (fun _ h => h) hv hdg kk
theorem gX3_26 (F : Fx p s m args meth c RX3 cc nL ret0) (hX : Cx D cI cP s) (hP : va_P D vwCl ws H) (q0 : Nat) (he : ws[q0]? = some (b, .inr (3, fs))) {v : Value} (hv : fs[3]? = some v) (hdg : decode cc pc = .ok (.getfield 26, 3)) (kk : W p l e R s m args below meth c H locs cells slots Q (F0 m (pc + 3) ls (v :: rest))) : W p l e R s m args below meth c H locs cells slots Q (F0 m pc ls (.ref b :: rest)) :=
  va_get F.1 F.2.1 F.2.2.2.2.1 uw_X3 F.2.2.2.1 hX.1 hP q0 he rfl 3 (by decide) (F.2.2.2.2.1 _ q_157) (fun _ h => h) hv hdg kk
theorem gX6_132 (F : Fx p s m args meth c RX6 cc nL ret0) (hX : Cx D cI cP s) (hP : va_P D vwCl ws H) (q0 : Nat) (he : ws[q0]? = some (b, .inr (3, fs))) {v : Value} (hv : fs[3]? = some v) (hdg : decode cc pc = .ok (.getfield 132, 3)) (kk : W p l e R s m args below meth c H locs cells slots Q (F0 m (pc + 3) ls (v :: rest))) : W p l e R s m args below meth c H locs cells slots Q (F0 m pc ls (.ref b :: rest)) :=
  va_getN F.1 F.2.1 F.2.2.2.2.1 uw_X3 F.2.2.2.1 hX.1 hP q0 he rfl 3 (by decide) (va_Nw.use rfl (hX.2 _ q_158)) (fun _ h => h) hv hdg kk
theorem gX3_33 (F : Fx p s m args meth c RX3 cc nL ret0) (hX : Cx D cI cP s) (hP : va_P D vwCl ws H) (q0 : Nat) (he : ws[q0]? = some (b, .inr (3, fs))) {v : Value} (hv : fs[4]? = some v) (hdg : decode cc pc = .ok (.getfield 33, 3)) (kk : W p l e R s m args below meth c H locs cells slots Q (F0 m (pc + 3) ls (v :: rest))) : W p l e R s m args below meth c H locs cells slots Q (F0 m pc ls (.ref b :: rest)) :=
  va_get F.1 F.2.1 F.2.2.2.2.1 uw_X3 F.2.2.2.1 hX.1 hP q0 he rfl 4 (by decide) (F.2.2.2.2.1 _ q_159) (fun _ h => h) hv hdg kk
theorem pX3_33 (F : Fx p s m args meth c RX3 cc nL ret0) (hX : Cx D cI cP s) (hP : va_P D vwCl ws H) (hD : va_D A ws) (hS : va_S A H0 H locs) (q0 : Nat) (he : ws[q0]? = some (b, .inr (3, fs))) {v : Int32} (hl : 4 < fs.length) (hdg : decode cc pc = .ok (.putfield 33, 3)) (kk : ∀ (H1 : Heap) (locs1 : List Loc), va_P D vwCl (ws.set q0 (b, .inr (3, fs.set 4 (.int v)))) H1 → va_D A (ws.set q0 (b, .inr (3, fs.set 4 (.int v)))) → va_S A H0 H1 locs1 → W p l e R s m args below meth c H1 locs1 cells slots Q (F0 m (pc + 3) ls (rest))) : W p l e R s m args below meth c H locs cells slots Q (F0 m pc ls (.int v :: .ref b :: rest)) :=
  va_put F.1 F.2.1 F.2.2.2.2.1 uw_X3 tyX3 tyX3_ok nmX3 F.2.2.2.1 hX.1 hP hD hS q0 he rfl 4 (by decide) (F.2.2.2.2.1 _ q_159) (fun _ h => h) rfl (ty := .int) (v := .int v) (by decide +kernel) rfl rfl hl hdg kk
theorem gX1_100 (F : Fx p s m args meth c RX1 cc nL ret0) (hX : Cx D cI cP s) (hP : va_P D vwCl ws H) (q0 : Nat) (he : ws[q0]? = some (b, .inr (3, fs))) {v : Value} (hv : fs[4]? = some v) (hdg : decode cc pc = .ok (.getfield 100, 3)) (kk : W p l e R s m args below meth c H locs cells slots Q (F0 m (pc + 3) ls (v :: rest))) : W p l e R s m args below meth c H locs cells slots Q (F0 m pc ls (.ref b :: rest)) :=
  va_getN F.1 F.2.1 F.2.2.2.2.1 uw_X3 F.2.2.2.1 hX.1 hP q0 he rfl 4 (by decide) (va_Nw.use rfl (hX.2 _ q_160)) (fun _ h => h) hv hdg kk
theorem pX1_100 (F : Fx p s m args meth c RX1 cc nL ret0) (hX : Cx D cI cP s) (hP : va_P D vwCl ws H) (hD : va_D A ws) (hS : va_S A H0 H locs) (q0 : Nat) (he : ws[q0]? = some (b, .inr (3, fs))) {v : Int32} (hl : 4 < fs.length) (hdg : decode cc pc = .ok (.putfield 100, 3)) (kk : ∀ (H1 : Heap) (locs1 : List Loc), va_P D vwCl (ws.set q0 (b, .inr (3, fs.set 4 (.int v)))) H1 → va_D A (ws.set q0 (b, .inr (3, fs.set 4 (.int v)))) → va_S A H0 H1 locs1 → W p l e R s m args below meth c H1 locs1 cells slots Q (F0 m (pc + 3) ls (rest))) : W p l e R s m args below meth c H locs cells slots Q (F0 m pc ls (.int v :: .ref b :: rest)) :=
  va_putN F.1 F.2.1 F.2.2.2.2.1 uw_X3 tyX3 tyX3_ok nmX3 F.2.2.2.1 hX.1 hP hD hS q0 he rfl 4 (by decide) (va_Nw.use rfl (hX.2 _ q_160)) (fun _ h => h) rfl (ty := .int) (v := .int v) (by decide +kernel) rfl rfl hl hdg kk
theorem gX6_209 (F : Fx p s m args meth c RX6 cc nL ret0) (hX : Cx D cI cP s) (hP : va_P D vwCl ws H) (q0 : Nat) (he : ws[q0]? = some (b, .inr (3, fs))) {v : Value} (hv : fs[4]? = some v) (hdg : decode cc pc = .ok (.getfield 209, 3)) (kk : W p l e R s m args below meth c H locs cells slots Q (F0 m (pc + 3) ls (v :: rest))) : W p l e R s m args below meth c H locs cells slots Q (F0 m pc ls (.ref b :: rest)) :=
  va_getN F.1 F.2.1 F.2.2.2.2.1 uw_X3 F.2.2.2.1 hX.1 hP q0 he rfl 4 (by decide) (va_Nw.use rfl (hX.2 _ q_161)) (fun _ h => h) hv hdg kk
theorem pX6_209 (F : Fx p s m args meth c RX6 cc nL ret0) (hX : Cx D cI cP s) (hP : va_P D vwCl ws H) (hD : va_D A ws) (hS : va_S A H0 H locs) (q0 : Nat) (he : ws[q0]? = some (b, .inr (3, fs))) {v : Int32} (hl : 4 < fs.length) (hdg : decode cc pc = .ok (.putfield 209, 3)) (kk : ∀ (H1 : Heap) (locs1 : List Loc), va_P D vwCl (ws.set q0 (b, .inr (3, fs.set 4 (.int v)))) H1 → va_D A (ws.set q0 (b, .inr (3, fs.set 4 (.int v)))) → va_S A H0 H1 locs1 → W p l e R s m args below meth c H1 locs1 cells slots Q (F0 m (pc + 3) ls (rest))) : W p l e R s m args below meth c H locs cells slots Q (F0 m pc ls (.int v :: .ref b :: rest)) :=
  va_putN F.1 F.2.1 F.2.2.2.2.1 uw_X3 tyX3 tyX3_ok nmX3 F.2.2.2.1 hX.1 hP hD hS q0 he rfl 4 (by decide) (va_Nw.use rfl (hX.2 _ q_161)) (fun _ h => h) rfl (ty := .int) (v := .int v) (by decide +kernel) rfl rfl hl hdg kk
theorem gX3_37 (F : Fx p s m args meth c RX3 cc nL ret0) (hX : Cx D cI cP s) (hP : va_P D vwCl ws H) (q0 : Nat) (he : ws[q0]? = some (b, .inr (3, fs))) {v : Value} (hv : fs[5]? = some v) (hdg : decode cc pc = .ok (.getfield 37, 3)) (kk : W p l e R s m args below meth c H locs cells slots Q (F0 m (pc + 3) ls (v :: rest))) : W p l e R s m args below meth c H locs cells slots Q (F0 m pc ls (.ref b :: rest)) :=
  va_get F.1 F.2.1 F.2.2.2.2.1 uw_X3 F.2.2.2.1 hX.1 hP q0 he rfl 5 (by decide) (F.2.2.2.2.1 _ q_162) (fun _ h => h) hv hdg kk
theorem pX3_37 (F : Fx p s m args meth c RX3 cc nL ret0) (hX : Cx D cI cP s) (hP : va_P D vwCl ws H) (hD : va_D A ws) (hS : va_S A H0 H locs) (q0 : Nat) (he : ws[q0]? = some (b, .inr (3, fs))) {v : Int32} (hl : 5 < fs.length) (hdg : decode cc pc = .ok (.putfield 37, 3)) (kk : ∀ (H1 : Heap) (locs1 : List Loc), va_P D vwCl (ws.set q0 (b, .inr (3, fs.set 5 (.int v)))) H1 → va_D A (ws.set q0 (b, .inr (3, fs.set 5 (.int v)))) → va_S A H0 H1 locs1 → W p l e R s m args below meth c H1 locs1 cells slots Q (F0 m (pc + 3) ls (rest))) : W p l e R s m args below meth c H locs cells slots Q (F0 m pc ls (.int v :: .ref b :: rest)) :=
  va_put F.1 F.2.1 F.2.2.2.2.1 uw_X3 tyX3 tyX3_ok nmX3 F.2.2.2.1 hX.1 hP hD hS q0 he rfl 5 (by decide) (F.2.2.2.2.1 _ q_162) (fun _ h => h) rfl (ty := .int) (v := .int v) (by decide +kernel) rfl rfl hl hdg kk
theorem gX6_236 (F : Fx p s m args meth c RX6 cc nL ret0) (hX : Cx D cI cP s) (hP : va_P D vwCl ws H) (q0 : Nat) (he : ws[q0]? = some (b, .inr (3, fs))) {v : Value} (hv : fs[5]? = some v) (hdg : decode cc pc = .ok (.getfield 236, 3)) (kk : W p l e R s m args below meth c H locs cells slots Q (F0 m (pc + 3) ls (v :: rest))) : W p l e R s m args below meth c H locs cells slots Q (F0 m pc ls (.ref b :: rest)) :=
  va_getN F.1 F.2.1 F.2.2.2.2.1 uw_X3 F.2.2.2.1 hX.1 hP q0 he rfl 5 (by decide) (va_Nw.use rfl (hX.2 _ q_163)) (fun _ h => h) hv hdg kk
theorem pX6_236 (F : Fx p s m args meth c RX6 cc nL ret0) (hX : Cx D cI cP s) (hP : va_P D vwCl ws H) (hD : va_D A ws) (hS : va_S A H0 H locs) (q0 : Nat) (he : ws[q0]? = some (b, .inr (3, fs))) {v : Int32} (hl : 5 < fs.length) (hdg : decode cc pc = .ok (.putfield 236, 3)) (kk : ∀ (H1 : Heap) (locs1 : List Loc), va_P D vwCl (ws.set q0 (b, .inr (3, fs.set 5 (.int v)))) H1 → va_D A (ws.set q0 (b, .inr (3, fs.set 5 (.int v)))) → va_S A H0 H1 locs1 → W p l e R s m args below meth c H1 locs1 cells slots Q (F0 m (pc + 3) ls (rest))) : W p l e R s m args below meth c H locs cells slots Q (F0 m pc ls (.int v :: .ref b :: rest)) :=
  va_putN F.1 F.2.1 F.2.2.2.2.1 uw_X3 tyX3 tyX3_ok nmX3 F.2.2.2.1 hX.1 hP hD hS q0 he rfl 5 (by decide) (va_Nw.use rfl (hX.2 _ q_163)) (fun _ h => h) rfl (ty := .int) (v := .int v) (by decide +kernel) rfl rfl hl hdg kk
theorem gX0_14 (F : Fx p s m args meth c RX0 cc nL ret0) (hX : Cx D cI cP s) (hP : va_P D vwCl ws H) (q0 : Nat) (he : ws[q0]? = some (b, .inr (0, fs))) {v : Value} (hv : fs[0]? = some v) (hdg : decode cc pc = .ok (.getfield 14, 3)) (kk : W p l e R s m args below meth c H locs cells slots Q (F0 m (pc + 3) ls (v :: rest))) : W p l e R s m args below meth c H locs cells slots Q (F0 m pc ls (.ref b :: rest)) :=
  va_get F.1 F.2.1 F.2.2.2.2.1 uw_X0 F.2.2.2.1 hX.1 hP q0 he rfl 0 (by decide) (F.2.2.2.2.1 _ q_185) (fun _ h => h) hv hdg kk
theorem gX0_24 (F : Fx p s m args meth c RX0 cc nL ret0) (hX : Cx D cI cP s) (hP : va_P D vwCl ws H) (q0 : Nat) (he : ws[q0]? = some (b, .inr (0, fs))) {v : Value} (hv : fs[1]? = some v) (hdg : decode cc pc = .ok (.getfield 24, 3)) (kk : W p l e R s m args below meth c H locs cells slots Q (F0 m (pc + 3) ls (v :: rest))) : W p l e R s m args below meth c H locs cells slots Q (F0 m pc ls (.ref b :: rest)) :=
  va_get F.1 F.2.1 F.2.2.2.2.1 uw_X0 F.2.2.2.1 hX.1 hP q0 he rfl 1 (by decide) (F.2.2.2.2.1 _ q_186) (fun _ h => h) hv hdg kk
theorem pX0_24 (F : Fx p s m args meth c RX0 cc nL ret0) (hX : Cx D cI cP s) (hP : va_P D vwCl ws H) (hD : va_D A ws) (hS : va_S A H0 H locs) (q0 : Nat) (he : ws[q0]? = some (b, .inr (0, fs))) {v : Int32} (hl : 1 < fs.length) (hdg : decode cc pc = .ok (.putfield 24, 3)) (kk : ∀ (H1 : Heap) (locs1 : List Loc), va_P D vwCl (ws.set q0 (b, .inr (0, fs.set 1 (.int v)))) H1 → va_D A (ws.set q0 (b, .inr (0, fs.set 1 (.int v)))) → va_S A H0 H1 locs1 → W p l e R s m args below meth c H1 locs1 cells slots Q (F0 m (pc + 3) ls (rest))) : W p l e R s m args below meth c H locs cells slots Q (F0 m pc ls (.int v :: .ref b :: rest)) :=
  va_put F.1 F.2.1 F.2.2.2.2.1 uw_X0 tyX0 tyX0_ok nmX0 F.2.2.2.1 hX.1 hP hD hS q0 he rfl 1 (by decide) (F.2.2.2.2.1 _ q_186) (fun _ h => h) rfl (ty := .int) (v := .int v) (by decide +kernel) rfl rfl hl hdg kk
theorem gX1_131 (F : Fx p s m args meth c RX1 cc nL ret0) (hX : Cx D cI cP s) (hP : va_P D vwCl ws H) (q0 : Nat) (he : ws[q0]? = some (b, .inr (0, fs))) {v : Value} (hv : fs[1]? = some v) (hdg : decode cc pc = .ok (.getfield 131, 3)) (kk : W p l e R s m args below meth c H locs cells slots Q (F0 m (pc + 3) ls (v :: rest))) : W p l e R s m args below meth c H locs cells slots Q (F0 m pc ls (.ref b :: rest)) :=
  va_getN F.1 F.2.1 F.2.2.2.2.1 uw_X0 F.2.2.2.1 hX.1 hP q0 he rfl 1 (by decide) (va_Nw.use rfl (hX.2 _ q_187)) (fun _ h => h) hv hdg kk
theorem pX1_131 (F : Fx p s m args meth c RX1 cc nL ret0) (hX : Cx D cI cP s) (hP : va_P D vwCl ws H) (hD : va_D A ws) (hS : va_S A H0 H locs) (q0 : Nat) (he : ws[q0]? = some (b, .inr (0, fs))) {v : Int32} (hl : 1 < fs.length) (hdg : decode cc pc = .ok (.putfield 131, 3)) (kk : ∀ (H1 : Heap) (locs1 : List Loc), va_P D vwCl (ws.set q0 (b, .inr (0, fs.set 1 (.int v)))) H1 → va_D A (ws.set q0 (b, .inr (0, fs.set 1 (.int v)))) → va_S A H0 H1 locs1 → W p l e R s m args below meth c H1 locs1 cells slots Q (F0 m (pc + 3) ls (rest))) : W p l e R s m args below meth c H locs cells slots Q (F0 m pc ls (.int v :: .ref b :: rest)) :=
  va_putN F.1 F.2.1 F.2.2.2.2.1 uw_X0 tyX0 tyX0_ok nmX0 F.2.2.2.1 hX.1 hP hD hS q0 he rfl 1 (by decide) (va_Nw.use rfl (hX.2 _ q_187)) (fun _ h => h) rfl (ty := .int) (v := .int v) (by decide +kernel) rfl rfl hl hdg kk
theorem gX6_224 (F : Fx p s m args meth c RX6 cc nL ret0) (hX : Cx D cI cP s) (hP : va_P D vwCl ws H) (q0 : Nat) (he : ws[q0]? = some (b, .inr (0, fs))) {v : Value} (hv : fs[1]? = some v) (hdg : decode cc pc = .ok (.getfield 224, 3)) (kk : W p l e R s m args below meth c H locs cells slots Q (F0 m (pc + 3) ls (v :: rest))) : W p l e R s m args below meth c H locs cells slots Q (F0 m pc ls (.ref b :: rest)) :=
  va_getN F.1 F.2.1 F.2.2.2.2.1 uw_X0 F.2.2.2.1 hX.1 hP q0 he rfl 1 (by decide) (va_Nw.use rfl (hX.2 _ q_188)) (fun _ h => h) hv hdg kk
theorem pX6_224 (F : Fx p s m args meth c RX6 cc nL ret0) (hX : Cx D cI cP s) (hP : va_P D vwCl ws H) (hD : va_D A ws) (hS : va_S A H0 H locs) (q0 : Nat) (he : ws[q0]? = some (b, .inr (0, fs))) {v : Int32} (hl : 1 < fs.length) (hdg : decode cc pc = .ok (.putfield 224, 3)) (kk : ∀ (H1 : Heap) (locs1 : List Loc), va_P D vwCl (ws.set q0 (b, .inr (0, fs.set 1 (.int v)))) H1 → va_D A (ws.set q0 (b, .inr (0, fs.set 1 (.int v)))) → va_S A H0 H1 locs1 → W p l e R s m args below meth c H1 locs1 cells slots Q (F0 m (pc + 3) ls (rest))) : W p l e R s m args below meth c H locs cells slots Q (F0 m pc ls (.int v :: .ref b :: rest)) :=
  va_putN F.1 F.2.1 F.2.2.2.2.1 uw_X0 tyX0 tyX0_ok nmX0 F.2.2.2.1 hX.1 hP hD hS q0 he rfl 1 (by decide) (va_Nw.use rfl (hX.2 _ q_188)) (fun _ h => h) rfl (ty := .int) (v := .int v) (by decide +kernel) rfl rfl hl hdg kk
theorem gX0_28 (F : Fx p s m args meth c RX0 cc nL ret0) (hX : Cx D cI cP s) (hP : va_P D vwCl ws H) (q0 : Nat) (he : ws[q0]? = some (b, .inr (0, fs))) {v : Value} (hv : fs[2]? = some v) (hdg : decode cc pc = .ok (.getfield 28, 3)) (kk : W p l e R s m args below meth c H locs cells slots Q (F0 m (pc + 3) ls (v :: rest))) : W p l e R s m args below meth c H locs cells slots Q (F0 m pc ls (.ref b :: rest)) :=
  va_get F.1 F.2.1 F.2.2.2.2.1 uw_X0 F.2.2.2.1 hX.1 hP q0 he rfl 2 (by decide) (F.2.2.2.2.1 _ q_189) (fun _ h => h) hv hdg kk
theorem pX0_28 (F : Fx p s m args meth c RX0 cc nL ret0) (hX : Cx D cI cP s) (hP : va_P D vwCl ws H) (hD : va_D A ws) (hS : va_S A H0 H locs) (q0 : Nat) (he : ws[q0]? = some (b, .inr (0, fs))) {v : Int32} (hl : 2 < fs.length) (hdg : decode cc pc = .ok (.putfield 28, 3)) (kk : ∀ (H1 : Heap) (locs1 : List Loc), va_P D vwCl (ws.set q0 (b, .inr (0, fs.set 2 (.int v)))) H1 → va_D A (ws.set q0 (b, .inr (0, fs.set 2 (.int v)))) → va_S A H0 H1 locs1 → W p l e R s m args below meth c H1 locs1 cells slots Q (F0 m (pc + 3) ls (rest))) : W p l e R s m args below meth c H locs cells slots Q (F0 m pc ls (.int v :: .ref b :: rest)) :=
  va_put F.1 F.2.1 F.2.2.2.2.1 uw_X0 tyX0 tyX0_ok nmX0 F.2.2.2.1 hX.1 hP hD hS q0 he rfl 2 (by decide) (F.2.2.2.2.1 _ q_189) (fun _ h => h) rfl (ty := .int) (v := .int v) (by decide +kernel) rfl rfl hl hdg kk
theorem gX6_227 (F : Fx p s m args meth c RX6 cc nL ret0) (hX : Cx D cI cP s) (hP : va_P D vwCl ws H) (q0 : Nat) (he : ws[q0]? = some (b, .inr (0, fs))) {v : Value} (hv : fs[2]? = some v) (hdg : decode cc pc = .ok (.getfield 227, 3)) (kk : W p l e R s m args below meth c H locs cells slots Q (F0 m (pc + 3) ls (v :: rest))) : W p l e R s m args below meth c H locs cells slots Q (F0 m pc ls (.ref b :: rest)) :=
  va_getN F.1 F.2.1 F.2.2.2.2.1 uw_X0 F.2.2.2.1 hX.1 hP q0 he rfl 2 (by decide) (va_Nw.use rfl (hX.2 _ q_190)) (fun _ h => h) hv hdg kk
theorem pX6_227 (F : Fx p s m args meth c RX6 cc nL ret0) (hX : Cx D cI cP s) (hP : va_P D vwCl ws H) (hD : va_D A ws) (hS : va_S A H0 H locs) (q0 : Nat) (he : ws[q0]? = some (b, .inr (0, fs))) {v : Int32} (hl : 2 < fs.length) (hdg : decode cc pc = .ok (.putfield 227, 3)) (kk : ∀ (H1 : Heap) (locs1 : List Loc), va_P D vwCl (ws.set q0 (b, .inr (0, fs.set 2 (.int v)))) H1 → va_D A (ws.set q0 (b, .inr (0, fs.set 2 (.int v)))) → va_S A H0 H1 locs1 → W p l e R s m args below meth c H1 locs1 cells slots Q (F0 m (pc + 3) ls (rest))) : W p l e R s m args below meth c H locs cells slots Q (F0 m pc ls (.int v :: .ref b :: rest)) :=
  va_putN F.1 F.2.1 F.2.2.2.2.1 uw_X0 tyX0 tyX0_ok nmX0 F.2.2.2.1 hX.1 hP hD hS q0 he rfl 2 (by decide) (va_Nw.use rfl (hX.2 _ q_190)) (fun _ h => h) rfl (ty := .int) (v := .int v) (by decide +kernel) rfl rfl hl hdg kk
theorem gX1_14 (F : Fx p s m args meth c RX1 cc nL ret0) (hX : Cx D cI cP s) (hP : va_P D vwCl ws H) (q0 : Nat) (he : ws[q0]? = some (b, .inr (1, fs))) {v : Value} (hv : fs[0]? = some v) (hdg : decode cc pc = .ok (.getfield 14, 3)) (kk : W p l e R s m args below meth c H locs cells slots Q (F0 m (pc + 3) ls (v :: rest))) : W p l e R s m args below meth c H locs cells slots Q (F0 m pc ls (.ref b :: rest)) :=
  va_get F.1 F.2.1 F.2.2.2.2.1 uw_X1 F.2.2.2.1 hX.1 hP q0 he rfl 0 (by decide) (F.2.2.2.2.1 _ q_198) (fun _ h => h) hv hdg kk
theorem gX6_86 (F : Fx p s m args meth c RX6 cc nL ret0) (hX : Cx D cI cP s) (hP : va_P D vwCl ws H) (q0 : Nat) (he : ws[q0]? = some (b, .inr (1, fs))) {v : Value} (hv : fs[0]? = some v) (hdg : decode cc pc = .ok (.getfield 86, 3)) (kk : W p l e R s m args below meth c H locs cells slots Q (F0 m (pc + 3) ls (v :: rest))) : W p l e R s m args below meth c H locs cells slots Q (F0 m pc ls (.ref b :: rest)) :=
  va_getN F.1 F.2.1 F.2.2.2.2.1 uw_X1 F.2.2.2.1 hX.1 hP q0 he rfl 0 (by decide) (va_Nw.use rfl (hX.2 _ q_199)) (fun _ h => h) hv hdg kk
theorem gX1_20 (F : Fx p s m args meth c RX1 cc nL ret0) (hX : Cx D cI cP s) (hP : va_P D vwCl ws H) (q0 : Nat) (he : ws[q0]? = some (b, .inr (1, fs))) {v : Value} (hv : fs[1]? = some v) (hdg : decode cc pc = .ok (.getfield 20, 3)) (kk : W p l e R s m args below meth c H locs cells slots Q (F0 m (pc + 3) ls (v :: rest))) : W p l e R s m args below meth c H locs cells slots Q (F0 m pc ls (.ref b :: rest)) :=
  va_get F.1 F.2.1 F.2.2.2.2.1 uw_X1 F.2.2.2.1 hX.1 hP q0 he rfl 1 (by decide) (F.2.2.2.2.1 _ q_200) (fun _ h => h) hv hdg kk
theorem gX6_89 (F : Fx p s m args meth c RX6 cc nL ret0) (hX : Cx D cI cP s) (hP : va_P D vwCl ws H) (q0 : Nat) (he : ws[q0]? = some (b, .inr (1, fs))) {v : Value} (hv : fs[1]? = some v) (hdg : decode cc pc = .ok (.getfield 89, 3)) (kk : W p l e R s m args below meth c H locs cells slots Q (F0 m (pc + 3) ls (v :: rest))) : W p l e R s m args below meth c H locs cells slots Q (F0 m pc ls (.ref b :: rest)) :=
  va_getN F.1 F.2.1 F.2.2.2.2.1 uw_X1 F.2.2.2.1 hX.1 hP q0 he rfl 1 (by decide) (va_Nw.use rfl (hX.2 _ q_201)) (fun _ h => h) hv hdg kk
theorem gX1_23 (F : Fx p s m args meth c RX1 cc nL ret0) (hX : Cx D cI cP s) (hP : va_P D vwCl ws H) (q0 : Nat) (he : ws[q0]? = some (b, .inr (1, fs))) {v : Value} (hv : fs[2]? = some v) (hdg : decode cc pc = .ok (.getfield 23, 3)) (kk : W p l e R s m args below meth c H locs cells slots Q (F0 m (pc + 3) ls (v :: rest))) : W p l e R s m args below meth c H locs cells slots Q (F0 m pc ls (.ref b :: rest)) :=
  va_get F.1 F.2.1 F.2.2.2.2.1 uw_X1 F.2.2.2.1 hX.1 hP q0 he rfl 2 (by decide) (F.2.2.2.2.1 _ q_202) (fun _ h => h) hv hdg kk
theorem gX6_95 (F : Fx p s m args meth c RX6 cc nL ret0) (hX : Cx D cI cP s) (hP : va_P D vwCl ws H) (q0 : Nat) (he : ws[q0]? = some (b, .inr (1, fs))) {v : Value} (hv : fs[2]? = some v) (hdg : decode cc pc = .ok (.getfield 95, 3)) (kk : W p l e R s m args below meth c H locs cells slots Q (F0 m (pc + 3) ls (v :: rest))) : W p l e R s m args below meth c H locs cells slots Q (F0 m pc ls (.ref b :: rest)) :=
  va_getN F.1 F.2.1 F.2.2.2.2.1 uw_X1 F.2.2.2.1 hX.1 hP q0 he rfl 2 (by decide) (va_Nw.use rfl (hX.2 _ q_203)) (fun _ h => h) hv hdg kk
theorem gX1_26 (F : Fx p s m args meth c RX1 cc nL ret0) (hX : Cx D cI cP s) (hP : va_P D vwCl ws H) (q0 : Nat) (he : ws[q0]? = some (b, .inr (1, fs))) {v : Value} (hv : fs[3]? = some v) (hdg : decode cc pc = .ok (.getfield 26, 3)) (kk : W p l e R s m args below meth c H locs cells slots Q (F0 m (pc + 3) ls (v :: rest))) : W p l e R s m args below meth c H locs cells slots Q (F0 m pc ls (.ref b :: rest)) :=
  va_get F.1 F.2.1 F.2.2.2.2.1 uw_X1 F.2.2.2.1 hX.1 hP q0 he rfl 3 (by decide) (F.2.2.2.2.1 _ q_204) (fun _ h => h) hv hdg kk
theorem gX6_77 (F : Fx p s m args meth c RX6 cc nL ret0) (hX : Cx D cI cP s) (hP : va_P D vwCl ws H) (q0 : Nat) (he : ws[q0]? = some (b, .inr (1, fs))) {v : Value} (hv : fs[3]? = some v) (hdg : decode cc pc = .ok (.getfield 77, 3)) (kk : W p l e R s m args below meth c H locs cells slots Q (F0 m (pc + 3) ls (v :: rest))) : W p l e R s m args below meth c H locs cells slots Q (F0 m pc ls (.ref b :: rest)) :=
  va_getN F.1 F.2.1 F.2.2.2.2.1 uw_X1 F.2.2.2.1 hX.1 hP q0 he rfl 3 (by decide) (va_Nw.use rfl (hX.2 _ q_205)) (fun _ h => h) hv hdg kk
theorem gX1_29 (F : Fx p s m args meth c RX1 cc nL ret0) (hX : Cx D cI cP s) (hP : va_P D vwCl ws H) (q0 : Nat) (he : ws[q0]? = some (b, .inr (1, fs))) {v : Value} (hv : fs[4]? = some v) (hdg : decode cc pc = .ok (.getfield 29, 3)) (kk : W p l e R s m args below meth c H locs cells slots Q (F0 m (pc + 3) ls (v :: rest))) : W p l e R s m args below meth c H locs cells slots Q (F0 m pc ls (.ref b :: rest)) :=
  va_get F.1 F.2.1 F.2.2.2.2.1 uw_X1 F.2.2.2.1 hX.1 hP q0 he rfl 4 (by decide) (F.2.2.2.2.1 _ q_206) (fun _ h => h) hv hdg kk
theorem gX6_102 (F : Fx p s m args meth c RX6 cc nL ret0) (hX : Cx D cI cP s) (hP : va_P D vwCl ws H) (q0 : Nat) (he : ws[q0]? = some (b, .inr (1, fs))) {v : Value} (hv : fs[4]? = some v) (hdg : decode cc pc = .ok (.getfield 102, 3)) (kk : W p l e R s m args below meth c H locs cells slots Q (F0 m (pc + 3) ls (v :: rest))) : W p l e R s m args below meth c H locs cells slots Q (F0 m pc ls (.ref b :: rest)) :=
  va_getN F.1 F.2.1 F.2.2.2.2.1 uw_X1 F.2.2.2.1 hX.1 hP q0 he rfl 4 (by decide) (va_Nw.use rfl (hX.2 _ q_207)) (fun _ h => h) hv hdg kk
theorem gX1_32 (F : Fx p s m args meth c RX1 cc nL ret0) (hX : Cx D cI cP s) (hP : va_P D vwCl ws H) (q0 : Nat) (he : ws[q0]? = some (b, .inr (1, fs))) {v : Value} (hv : fs[5]? = some v) (hdg : decode cc pc = .ok (.getfield 32, 3)) (kk : W p l e R s m args below meth c H locs cells slots Q (F0 m (pc + 3) ls (v :: rest))) : W p l e R s m args below meth c H locs cells slots Q (F0 m pc ls (.ref b :: rest)) :=
  va_get F.1 F.2.1 F.2.2.2.2.1 uw_X1 F.2.2.2.1 hX.1 hP q0 he rfl 5 (by decide) (F.2.2.2.2.1 _ q_208) (fun _ h => h) hv hdg kk
theorem gX6_99 (F : Fx p s m args meth c RX6 cc nL ret0) (hX : Cx D cI cP s) (hP : va_P D vwCl ws H) (q0 : Nat) (he : ws[q0]? = some (b, .inr (1, fs))) {v : Value} (hv : fs[5]? = some v) (hdg : decode cc pc = .ok (.getfield 99, 3)) (kk : W p l e R s m args below meth c H locs cells slots Q (F0 m (pc + 3) ls (v :: rest))) : W p l e R s m args below meth c H locs cells slots Q (F0 m pc ls (.ref b :: rest)) :=
  va_getN F.1 F.2.1 F.2.2.2.2.1 uw_X1 F.2.2.2.1 hX.1 hP q0 he rfl 5 (by decide) (va_Nw.use rfl (hX.2 _ q_209)) (fun _ h => h) hv hdg kk
theorem gX1_38 (F : Fx p s m args meth c RX1 cc nL ret0) (hX : Cx D cI cP s) (hP : va_P D vwCl ws H) (q0 : Nat) (he : ws[q0]? = some (b, .inr (1, fs))) {v : Value} (hv : fs[6]? = some v) (hdg : decode cc pc = .ok (.getfield 38, 3)) (kk : W p l e R s m args below meth c H locs cells slots Q (F0 m (pc + 3) ls (v :: rest))) : W p l e R s m args below meth c H locs cells slots Q (F0 m pc ls (.ref b :: rest)) :=
  va_get F.1 F.2.1 F.2.2.2.2.1 uw_X1 F.2.2.2.1 hX.1 hP q0 he rfl 6 (by decide) (F.2.2.2.2.1 _ q_210) (fun _ h => h) hv hdg kk
theorem gX6_105 (F : Fx p s m args meth c RX6 cc nL ret0) (hX : Cx D cI cP s) (hP : va_P D vwCl ws H) (q0 : Nat) (he : ws[q0]? = some (b, .inr (1, fs))) {v : Value} (hv : fs[6]? = some v) (hdg : decode cc pc = .ok (.getfield 105, 3)) (kk : W p l e R s m args below meth c H locs cells slots Q (F0 m (pc + 3) ls (v :: rest))) : W p l e R s m args below meth c H locs cells slots Q (F0 m pc ls (.ref b :: rest)) :=
  va_getN F.1 F.2.1 F.2.2.2.2.1 uw_X1 F.2.2.2.1 hX.1 hP q0 he rfl 6 (by decide) (va_Nw.use rfl (hX.2 _ q_211)) (fun _ h => h) hv hdg kk
theorem gX1_45 (F : Fx p s m args meth c RX1 cc nL ret0) (hX : Cx D cI cP s) (hP : va_P D vwCl ws H) (q0 : Nat) (he : ws[q0]? = some (b, .inr (1, fs))) {v : Value} (hv : fs[7]? = some v) (hdg : decode cc pc = .ok (.getfield 45, 3)) (kk : W p l e R s m args below meth c H locs cells slots Q (F0 m (pc + 3) ls (v :: rest))) : W p l e R s m args below meth c H locs cells slots Q (F0 m pc ls (.ref b :: rest)) :=
  va_get F.1 F.2.1 F.2.2.2.2.1 uw_X1 F.2.2.2.1 hX.1 hP q0 he rfl 7 (by decide) (F.2.2.2.2.1 _ q_212) (fun _ h => h) hv hdg kk
theorem gX6_152 (F : Fx p s m args meth c RX6 cc nL ret0) (hX : Cx D cI cP s) (hP : va_P D vwCl ws H) (q0 : Nat) (he : ws[q0]? = some (b, .inr (1, fs))) {v : Value} (hv : fs[7]? = some v) (hdg : decode cc pc = .ok (.getfield 152, 3)) (kk : W p l e R s m args below meth c H locs cells slots Q (F0 m (pc + 3) ls (v :: rest))) : W p l e R s m args below meth c H locs cells slots Q (F0 m pc ls (.ref b :: rest)) :=
  va_getN F.1 F.2.1 F.2.2.2.2.1 uw_X1 F.2.2.2.1 hX.1 hP q0 he rfl 7 (by decide) (va_Nw.use rfl (hX.2 _ q_213)) (fun _ h => h) hv hdg kk
theorem gX5_35 (F : Fx p s m args meth c RX5 cc nL ret0) (hX : Cx D cI cP s) (hP : va_P D vwCl ws H) (q0 : Nat) (he : ws[q0]? = some (b, .inr (1, fs))) {v : Value} (hv : fs[8]? = some v) (hdg : decode cc pc = .ok (.getfield 35, 3)) (kk : W p l e R s m args below meth c H locs cells slots Q (F0 m (pc + 3) ls (v :: rest))) : W p l e R s m args below meth c H locs cells slots Q (F0 m pc ls (.ref b :: rest)) :=
  va_getN F.1 F.2.1 F.2.2.2.2.1 uw_X1 F.2.2.2.1 hX.1 hP q0 he rfl 8 (by decide) (va_Nw.use rfl (hX.2 _ q_214)) (fun _ h => h) hv hdg kk
theorem pX5_35 (F : Fx p s m args meth c RX5 cc nL ret0) (hX : Cx D cI cP s) (hP : va_P D vwCl ws H) (hD : va_D A ws) (hS : va_S A H0 H locs) (q0 : Nat) (he : ws[q0]? = some (b, .inr (1, fs))) {v : Int32} (hl : 8 < fs.length) (hdg : decode cc pc = .ok (.putfield 35, 3)) (kk : ∀ (H1 : Heap) (locs1 : List Loc), va_P D vwCl (ws.set q0 (b, .inr (1, fs.set 8 (.int v)))) H1 → va_D A (ws.set q0 (b, .inr (1, fs.set 8 (.int v)))) → va_S A H0 H1 locs1 → W p l e R s m args below meth c H1 locs1 cells slots Q (F0 m (pc + 3) ls (rest))) : W p l e R s m args below meth c H locs cells slots Q (F0 m pc ls (.int v :: .ref b :: rest)) :=
  va_putN F.1 F.2.1 F.2.2.2.2.1 uw_X1 tyX1 tyX1_ok nmX1 F.2.2.2.1 hX.1 hP hD hS q0 he rfl 8 (by decide) (va_Nw.use rfl (hX.2 _ q_214)) (fun _ h => h) rfl (ty := .int) (v := .int v) (by decide +kernel) rfl rfl hl hdg kk
theorem gX1_63 (F : Fx p s m args meth c RX1 cc nL ret0) (hX : Cx D cI cP s) (hP : va_P D vwCl ws H) (q0 : Nat) (he : ws[q0]? = some (b, .inr (1, fs))) {v : Value} (hv : fs[8]? = some v) (hdg : decode cc pc = .ok (.getfield 63, 3)) (kk : W p l e R s m args below meth c H locs cells slots Q (F0 m (pc + 3) ls (v :: rest))) : W p l e R s m args below meth c H locs cells slots Q (F0 m pc ls (.ref b :: rest)) :=
  va_get F.1 F.2.1 F.2.2.2.2.1 uw_X1 F.2.2.2.1 hX.1 hP q0 he rfl 8 (by decide) (F.2.2.2.2.1 _ q_215) (fun _ h => h) hv hdg kk
theorem pX1_63 (F : Fx p s m args meth c RX1 cc nL ret0) (hX : Cx D cI cP s) (hP : va_P D vwCl ws H) (hD : va_D A ws) (hS : va_S A H0 H locs) (q0 : Nat) (he : ws[q0]? = some (b, .inr (1, fs))) {v : Int32} (hl : 8 < fs.length) (hdg : decode cc pc = .ok (.putfield 63, 3)) (kk : ∀ (H1 : Heap) (locs1 : List Loc), va_P D vwCl (ws.set q0 (b, .inr (1, fs.set 8 (.int v)))) H1 → va_D A (ws.set q0 (b, .inr (1, fs.set 8 (.int v)))) → va_S A H0 H1 locs1 → W p l e R s m args below meth c H1 locs1 cells slots Q (F0 m (pc + 3) ls (rest))) : W p l e R s m args below meth c H locs cells slots Q (F0 m pc ls (.int v :: .ref b :: rest)) :=
  va_put F.1 F.2.1 F.2.2.2.2.1 uw_X1 tyX1 tyX1_ok nmX1 F.2.2.2.1 hX.1 hP hD hS q0 he rfl 8 (by decide) (F.2.2.2.2.1 _ q_215) (fun _ h => h) rfl (ty := .int) (v := .int v) (by decide +kernel) rfl rfl hl hdg kk
theorem gX6_178 (F : Fx p s m args meth c RX6 cc nL ret0) (hX : Cx D cI cP s) (hP : va_P D vwCl ws H) (q0 : Nat) (he : ws[q0]? = some (b, .inr (1, fs))) {v : Value} (hv : fs[8]? = some v) (hdg : decode cc pc = .ok (.getfield 178, 3)) (kk : W p l e R s m args below meth c H locs cells slots Q (F0 m (pc + 3) ls (v :: rest))) : W p l e R s m args below meth c H locs cells slots Q (F0 m pc ls (.ref b :: rest)) :=
  va_getN F.1 F.2.1 F.2.2.2.2.1 uw_X1 F.2.2.2.1 hX.1 hP q0 he rfl 8 (by decide) (va_Nw.use rfl (hX.2 _ q_216)) (fun _ h => h) hv hdg kk
theorem pX6_178 (F : Fx p s m args meth c RX6 cc nL ret0) (hX : Cx D cI cP s) (hP : va_P D vwCl ws H) (hD : va_D A ws) (hS : va_S A H0 H locs) (q0 : Nat) (he : ws[q0]? = some (b, .inr (1, fs))) {v : Int32} (hl : 8 < fs.length) (hdg : decode cc pc = .ok (.putfield 178, 3)) (kk : ∀ (H1 : Heap) (locs1 : List Loc), va_P D vwCl (ws.set q0 (b, .inr (1, fs.set 8 (.int v)))) H1 → va_D A (ws.set q0 (b, .inr (1, fs.set 8 (.int v)))) → va_S A H0 H1 locs1 → W p l e R s m args below meth c H1 locs1 cells slots Q (F0 m (pc + 3) ls (rest))) : W p l e R s m args below meth c H locs cells slots Q (F0 m pc ls (.int v :: .ref b :: rest)) :=
  va_putN F.1 F.2.1 F.2.2.2.2.1 uw_X1 tyX1 tyX1_ok nmX1 F.2.2.2.1 hX.1 hP hD hS q0 he rfl 8 (by decide) (va_Nw.use rfl (hX.2 _ q_216)) (fun _ h => h) rfl (ty := .int) (v := .int v) (by decide +kernel) rfl rfl hl hdg kk
theorem gX1_66 (F : Fx p s m args meth c RX1 cc nL ret0) (hX : Cx D cI cP s) (hP : va_P D vwCl ws H) (q0 : Nat) (he : ws[q0]? = some (b, .inr (1, fs))) {v : Value} (hv : fs[9]? = some v) (hdg : decode cc pc = .ok (.getfield 66, 3)) (kk : W p l e R s m args below meth c H locs cells slots Q (F0 m (pc + 3) ls (v :: rest))) : W p l e R s m args below meth c H locs cells slots Q (F0 m pc ls (.ref b :: rest)) :=
  va_get F.1 F.2.1 F.2.2.2.2.1 uw_X1 F.2.2.2.1 hX.1 hP q0 he rfl 9 (by decide) (F.2.2.2.2.1 _ q_217) (fun _ h => h) hv hdg kk
theorem pX1_66 (F : Fx p s m args meth c RX1 cc nL ret0) (hX : Cx D cI cP s) (hP : va_P D vwCl ws H) (hD : va_D A ws) (hS : va_S A H0 H locs) (q0 : Nat) (he : ws[q0]? = some (b, .inr (1, fs))) {v : Int32} (hl : 9 < fs.length) (hdg : decode cc pc = .ok (.putfield 66, 3)) (kk : ∀ (H1 : Heap) (locs1 : List Loc), va_P D vwCl (ws.set q0 (b, .inr (1, fs.set 9 (.int v)))) H1 → va_D A (ws.set q0 (b, .inr (1, fs.set 9 (.int v)))) → va_S A H0 H1 locs1 → W p l e R s m args below meth c H1 locs1 cells slots Q (F0 m (pc + 3) ls (rest))) : W p l e R s m args below meth c H locs cells slots Q (F0 m pc ls (.int v :: .ref b :: rest)) :=
  va_put F.1 F.2.1 F.2.2.2.2.1 uw_X1 tyX1 tyX1_ok nmX1 F.2.2.2.1 hX.1 hP hD hS q0 he rfl 9 (by decide) (F.2.2.2.2.1 _ q_217) (fun _ h => h) rfl (ty := .int) (v := .int v) (by decide +kernel) rfl rfl hl hdg kk
theorem gX6_218 (F : Fx p s m args meth c RX6 cc nL ret0) (hX : Cx D cI cP s) (hP : va_P D vwCl ws H) (q0 : Nat) (he : ws[q0]? = some (b, .inr (1, fs))) {v : Value} (hv : fs[9]? = some v) (hdg : decode cc pc = .ok (.getfield 218, 3)) (kk : W p l e R s m args below meth c H locs cells slots Q (F0 m (pc + 3) ls (v :: rest))) : W p l e R s m args below meth c H locs cells slots Q (F0 m pc ls (.ref b :: rest)) :=
  va_getN F.1 F.2.1 F.2.2.2.2.1 uw_X1 F.2.2.2.1 hX.1 hP q0 he rfl 9 (by decide) (va_Nw.use rfl (hX.2 _ q_218)) (fun _ h => h) hv hdg kk
theorem pX6_218 (F : Fx p s m args meth c RX6 cc nL ret0) (hX : Cx D cI cP s) (hP : va_P D vwCl ws H) (hD : va_D A ws) (hS : va_S A H0 H locs) (q0 : Nat) (he : ws[q0]? = some (b, .inr (1, fs))) {v : Int32} (hl : 9 < fs.length) (hdg : decode cc pc = .ok (.putfield 218, 3)) (kk : ∀ (H1 : Heap) (locs1 : List Loc), va_P D vwCl (ws.set q0 (b, .inr (1, fs.set 9 (.int v)))) H1 → va_D A (ws.set q0 (b, .inr (1, fs.set 9 (.int v)))) → va_S A H0 H1 locs1 → W p l e R s m args below meth c H1 locs1 cells slots Q (F0 m (pc + 3) ls (rest))) : W p l e R s m args below meth c H locs cells slots Q (F0 m pc ls (.int v :: .ref b :: rest)) :=
  va_putN F.1 F.2.1 F.2.2.2.2.1 uw_X1 tyX1 tyX1_ok nmX1 F.2.2.2.1 hX.1 hP hD hS q0 he rfl 9 (by decide) (va_Nw.use rfl (hX.2 _ q_218)) (fun _ h => h) rfl (ty := .int) (v := .int v) (by decide +kernel) rfl rfl hl hdg kk
theorem gX1_49 (F : Fx p s m args meth c RX1 cc nL ret0) (hX : Cx D cI cP s) (hP : va_P D vwCl ws H) (q0 : Nat) (he : ws[q0]? = some (b, .inr (1, fs))) {v : Value} (hv : fs[10]? = some v) (hdg : decode cc pc = .ok (.getfield 49, 3)) (kk : W p l e R s m args below meth c H locs cells slots Q (F0 m (pc + 3) ls (v :: rest))) : W p l e R s m args below meth c H locs cells slots Q (F0 m pc ls (.ref b :: rest)) :=
  va_get F.1 F.2.1 F.2.2.2.2.1 uw_X1 F.2.2.2.1 hX.1 hP q0 he rfl 10 (by decide) (F.2.2.2.2.1 _ q_219) (fun _ h => h) hv hdg kk
theorem pX1_49 (F : Fx p s m args meth c RX1 cc nL ret0) (hX : Cx D cI cP s) (hP : va_P D vwCl ws H) (hD : va_D A ws) (hS : va_S A H0 H locs) (q0 : Nat) (he : ws[q0]? = some (b, .inr (1, fs))) {v : Int32} (hl : 10 < fs.length) (hdg : decode cc pc = .ok (.putfield 49, 3)) (kk : ∀ (H1 : Heap) (locs1 : List Loc), va_P D vwCl (ws.set q0 (b, .inr (1, fs.set 10 (.int v)))) H1 → va_D A (ws.set q0 (b, .inr (1, fs.set 10 (.int v)))) → va_S A H0 H1 locs1 → W p l e R s m args below meth c H1 locs1 cells slots Q (F0 m (pc + 3) ls (rest))) : W p l e R s m args below meth c H locs cells slots Q (F0 m pc ls (.int v :: .ref b :: rest)) :=
  va_put F.1 F.2.1 F.2.2.2.2.1 uw_X1 tyX1 tyX1_ok nmX1 F.2.2.2.1 hX.1 hP hD hS q0 he rfl 10 (by decide) (F.2.2.2.2.1 _ q_219) (fun _ h => h) rfl (ty := .int) (v := .int v) (by decide +kernel) rfl rfl hl hdg kk
theorem gX6_239 (F : Fx p s m args meth c RX6 cc nL ret0) (hX : Cx D cI cP s) (hP : va_P D vwCl ws H) (q0 : Nat) (he : ws[q0]? = some (b, .inr (1, fs))) {v : Value} (hv : fs[10]? = some v) (hdg : decode cc pc = .ok (.getfield 239, 3)) (kk : W p l e R s m args below meth c H locs cells slots Q (F0 m (pc + 3) ls (v :: rest))) : W p l e R s m args below meth c H locs cells slots Q (F0 m pc ls (.ref b :: rest)) :=
  va_getN F.1 F.2.1 F.2.2.2.2.1 uw_X1 F.2.2.2.1 hX.1 hP q0 he rfl 10 (by decide) (va_Nw.use rfl (hX.2 _ q_220)) (fun _ h => h) hv hdg kk
theorem pX6_239 (F : Fx p s m args meth c RX6 cc nL ret0) (hX : Cx D cI cP s) (hP : va_P D vwCl ws H) (hD : va_D A ws) (hS : va_S A H0 H locs) (q0 : Nat) (he : ws[q0]? = some (b, .inr (1, fs))) {v : Int32} (hl : 10 < fs.length) (hdg : decode cc pc = .ok (.putfield 239, 3)) (kk : ∀ (H1 : Heap) (locs1 : List Loc), va_P D vwCl (ws.set q0 (b, .inr (1, fs.set 10 (.int v)))) H1 → va_D A (ws.set q0 (b, .inr (1, fs.set 10 (.int v)))) → va_S A H0 H1 locs1 → W p l e R s m args below meth c H1 locs1 cells slots Q (F0 m (pc + 3) ls (rest))) : W p l e R s m args below meth c H locs cells slots Q (F0 m pc ls (.int v :: .ref b :: rest)) :=
  va_putN F.1 F.2.1 F.2.2.2.2.1 uw_X1 tyX1 tyX1_ok nmX1 F.2.2.2.1 hX.1 hP hD hS q0 he rfl 10 (by decide) (va_Nw.use rfl (hX.2 _ q_220)) (fun _ h => h) rfl (ty := .int) (v := .int v) (by decide +kernel) rfl rfl hl hdg kk
theorem gX5_26 (F : Fx p s m args meth c RX5 cc nL ret0) (hX : Cx D cI cP s) (hP : va_P D vwCl ws H) (q0 : Nat) (he : ws[q0]? = some (b, .inr (1, fs))) {v : Value} (hv : fs[11]? = some v) (hdg : decode cc pc = .ok (.getfield 26, 3)) (kk : W p l e R s m args below meth c H locs cells slots Q (F0 m (pc + 3) ls (v :: rest))) : W p l e R s m args below meth c H locs cells slots Q (F0 m pc ls (.ref b :: rest)) :=
  va_getN F.1 F.2.1 F.2.2.2.2.1 uw_X1 F.2.2.2.1 hX.1 hP q0 he rfl 11 (by decide) (va_Nw.use rfl (hX.2 _ q_221)) (fun _ h => h) hv hdg kk
theorem pX5_26 (F : Fx p s m args meth c RX5 cc nL ret0) (hX : Cx D cI cP s) (hP : va_P D vwCl ws H) (hD : va_D A ws) (hS : va_S A H0 H locs) (q0 : Nat) (he : ws[q0]? = some (b, .inr (1, fs))) {v : Int32} (hl : 11 < fs.length) (hdg : decode cc pc = .ok (.putfield 26, 3)) (kk : ∀ (H1 : Heap) (locs1 : List Loc), va_P D vwCl (ws.set q0 (b, .inr (1, fs.set 11 (.int v)))) H1 → va_D A (ws.set q0 (b, .inr (1, fs.set 11 (.int v)))) → va_S A H0 H1 locs1 → W p l e R s m args below meth c H1 locs1 cells slots Q (F0 m (pc + 3) ls (rest))) : W p l e R s m args below meth c H locs cells slots Q (F0 m pc ls (.int v :: .ref b :: rest)) :=
  va_putN F.1 F.2.1 F.2.2.2.2.1 uw_X1 tyX1 tyX1_ok nmX1 F.2.2.2.1 hX.1 hP hD hS q0 he rfl 11 (by decide) (va_Nw.use rfl (hX.2 _ q_221)) (fun _ h => h) rfl (ty := .int) (v := .int v) (by decide +kernel) rfl rfl hl hdg kk
theorem gX1_69 (F : Fx p s m args meth c RX1 cc nL ret0) (hX : Cx D cI cP s) (hP : va_P D vwCl ws H) (q0 : Nat) (he : ws[q0]? = some (b, .inr (1, fs))) {v : Value} (hv : fs[11]? = some v) (hdg : decode cc pc = .ok (.getfield 69, 3)) (kk : W p l e R s m args below meth c H locs cells slots Q (F0 m (pc + 3) ls (v :: rest))) : W p l e R s m args below meth c H locs cells slots Q (F0 m pc ls (.ref b :: rest)) :=
  va_get F.1 F.2.1 F.2.2.2.2.1 uw_X1 F.2.2.2.1 hX.1 hP q0 he rfl 11 (by decide) (F.2.2.2.2.1 _ q_222) (fun _ h => h) hv hdg kk
theorem pX1_69 (F : Fx p s m args meth c RX1 cc nL ret0) (hX : Cx D cI cP s) (hP : va_P D vwCl ws H) (hD : va_D A ws) (hS : va_S A H0 H locs) (q0 : Nat) (he : ws[q0]? = some (b, .inr (1, fs))) {v : Int32} (hl : 11 < fs.length) (hdg : decode cc pc = .ok (.putfield 69, 3)) (kk : ∀ (H1 : Heap) (locs1 : List Loc), va_P D vwCl (ws.set q0 (b, .inr (1, fs.set 11 (.int v)))) H1 → va_D A (ws.set q0 (b, .inr (1, fs.set 11 (.int v)))) → va_S A H0 H1 locs1 → W p l e R s m args below meth c H1 locs1 cells slots Q (F0 m (pc + 3) ls (rest))) : W p l e R s m args below meth c H locs cells slots Q (F0 m pc ls (.int v :: .ref b :: rest)) :=
  va_put F.1 F.2.1 F.2.2.2.2.1 uw_X1 tyX1 tyX1_ok nmX1 F.2.2.2.1 hX.1 hP hD hS q0 he rfl 11 (by decide) (F.2.2.2.2.1 _ q_222) (fun _ h => h) rfl (ty := .int) (v := .int v) (by decide +kernel) rfl rfl hl hdg kk
theorem gX6_201 (F : Fx p s m args meth c RX6 cc nL ret0) (hX : Cx D cI cP s) (hP : va_P D vwCl ws H) (q0 : Nat) (he : ws[q0]? = some (b, .inr (1, fs))) {v : Value} (hv : fs[11]? = some v) (hdg : decode cc pc = .ok (.getfield 201, 3)) (kk : W p l e R s m args below meth c H locs cells slots Q (F0 m (pc + 3) ls (v :: rest))) : W p l e R s m args below meth c H locs cells slots Q (F0 m pc ls (.ref b :: rest)) :=
  va_getN F.1 F.2.1 F.2.2.2.2.1 uw_X1 F.2.2.2.1 hX.1 hP q0 he rfl 11 (by decide) (va_Nw.use rfl (hX.2 _ q_223)) (fun _ h => h) hv hdg kk
theorem pX6_201 (F : Fx p s m args meth c RX6 cc nL ret0) (hX : Cx D cI cP s) (hP : va_P D vwCl ws H) (hD : va_D A ws) (hS : va_S A H0 H locs) (q0 : Nat) (he : ws[q0]? = some (b, .inr (1, fs))) {v : Int32} (hl : 11 < fs.length) (hdg : decode cc pc = .ok (.putfield 201, 3)) (kk : ∀ (H1 : Heap) (locs1 : List Loc), va_P D vwCl (ws.set q0 (b, .inr (1, fs.set 11 (.int v)))) H1 → va_D A (ws.set q0 (b, .inr (1, fs.set 11 (.int v)))) → va_S A H0 H1 locs1 → W p l e R s m args below meth c H1 locs1 cells slots Q (F0 m (pc + 3) ls (rest))) : W p l e R s m args below meth c H locs cells slots Q (F0 m pc ls (.int v :: .ref b :: rest)) :=
  va_putN F.1 F.2.1 F.2.2.2.2.1 uw_X1 tyX1 tyX1_ok nmX1 F.2.2.2.1 hX.1 hP hD hS q0 he rfl 11 (by decide) (va_Nw.use rfl (hX.2 _ q_223)) (fun _ h => h) rfl (ty := .int) (v := .int v) (by decide +kernel) rfl rfl hl hdg kk
theorem gX5_20 (F : Fx p s m args meth c RX5 cc nL ret0) (hX : Cx D cI cP s) (hP : va_P D vwCl ws H) (q0 : Nat) (he : ws[q0]? = some (b, .inr (1, fs))) {v : Value} (hv : fs[12]? = some v) (hdg : decode cc pc = .ok (.getfield 20, 3)) (kk : W p l e R s m args below meth c H locs cells slots Q (F0 m (pc + 3) ls (v :: rest))) : W p l e R s m args below meth c H locs cells slots Q (F0 m pc ls (.ref b :: rest)) :=
  va_getN F.1 F.2.1 F.2.2.2.2.1 uw_X1 F.2.2.2.1 hX.1 hP q0 he rfl 12 (by decide) (va_Nw.use rfl (hX.2 _ q_224)) (fun _ h => h) hv hdg kk
theorem pX5_20 (F : Fx p s m args meth c RX5 cc nL ret0) (hX : Cx D cI cP s) (hP : va_P D vwCl ws H) (hD : va_D A ws) (hS : va_S A H0 H locs) (q0 : Nat) (he : ws[q0]? = some (b, .inr (1, fs))) {v : Int32} (hl : 12 < fs.length) (hdg : decode cc pc = .ok (.putfield 20, 3)) (kk : ∀ (H1 : Heap) (locs1 : List Loc), va_P D vwCl (ws.set q0 (b, .inr (1, fs.set 12 (.int v)))) H1 → va_D A (ws.set q0 (b, .inr (1, fs.set 12 (.int v)))) → va_S A H0 H1 locs1 → W p l e R s m args below meth c H1 locs1 cells slots Q (F0 m (pc + 3) ls (rest))) : W p l e R s m args below meth c H locs cells slots Q (F0 m pc ls (.int v :: .ref b :: rest)) :=
  va_putN F.1 F.2.1 F.2.2.2.2.1 uw_X1 tyX1 tyX1_ok nmX1 F.2.2.2.1 hX.1 hP hD hS q0 he rfl 12 (by decide) (va_Nw.use rfl (hX.2 _ q_224)) (fun _ h => h) rfl (ty := .int) (v := .int v) (by decide +kernel) rfl rfl hl hdg kk
theorem gX1_72 (F : Fx p s m args meth c RX1 cc nL ret0) (hX : Cx D cI cP s) (hP : va_P D vwCl ws H) (q0 : Nat) (he : ws[q0]? = some (b, .inr (1, fs))) {v : Value} (hv : fs[12]? = some v) (hdg : decode cc pc = .ok (.getfield 72, 3)) (kk : W p l e R s m args below meth c H locs cells slots Q (F0 m (pc + 3) ls (v :: rest))) : W p l e R s m args below meth c H locs cells slots Q (F0 m pc ls (.ref b :: rest)) :=
  va_get F.1 F.2.1 F.2.2.2.2.1 uw_X1 F.2.2.2.1 hX.1 hP q0 he rfl 12 (by decide) (F.2.2.2.2.1 _ q_225) (fun _ h => h) hv hdg kk
theorem pX1_72 (F : Fx p s m args meth c RX1 cc nL ret0) (hX : Cx D cI cP s) (hP : va_P D vwCl ws H) (hD : va_D A ws) (hS : va_S A H0 H locs) (q0 : Nat) (he : ws[q0]? = some (b, .inr (1, fs))) {v : Int32} (hl : 12 < fs.length) (hdg : decode cc pc = .ok (.putfield 72, 3)) (kk : ∀ (H1 : Heap) (locs1 : List Loc), va_P D vwCl (ws.set q0 (b, .inr (1, fs.set 12 (.int v)))) H1 → va_D A (ws.set q0 (b, .inr (1, fs.set 12 (.int v)))) → va_S A H0 H1 locs1 → W p l e R s m args below meth c H1 locs1 cells slots Q (F0 m (pc + 3) ls (rest))) : W p l e R s m args below meth c H locs cells slots Q (F0 m pc ls (.int v :: .ref b :: rest)) :=
  va_put F.1 F.2.1 F.2.2.2.2.1 uw_X1 tyX1 tyX1_ok nmX1 F.2.2.2.1 hX.1 hP hD hS q0 he rfl 12 (by decide) (F.2.2.2.2.1 _ q_225) (fun _ h => h) rfl (ty := .int) (v := .int v) (by decide +kernel) rfl rfl hl hdg kk
theorem gX6_174 (F : Fx p s m args meth c RX6 cc nL ret0) (hX : Cx D cI cP s) (hP : va_P D vwCl ws H) (q0 : Nat) (he : ws[q0]? = some (b, .inr (1, fs))) {v : Value} (hv : fs[12]? = some v) (hdg : decode cc pc = .ok (.getfield 174, 3)) (kk : W p l e R s m args below meth c H locs cells slots Q (F0 m (pc + 3) ls (v :: rest))) : W p l e R s m args below meth c H locs cells slots Q (F0 m pc ls (.ref b :: rest)) :=
  va_getN F.1 F.2.1 F.2.2.2.2.1 uw_X1 F.2.2.2.1 hX.1 hP q0 he rfl 12 (by decide) (va_Nw.use rfl (hX.2 _ q_226)) (fun _ h => h) hv hdg kk
theorem pX6_174 (F : Fx p s m args meth c RX6 cc nL ret0) (hX : Cx D cI cP s) (hP : va_P D vwCl ws H) (hD : va_D A ws) (hS : va_S A H0 H locs) (q0 : Nat) (he : ws[q0]? = some (b, .inr (1, fs))) {v : Int32} (hl : 12 < fs.length) (hdg : decode cc pc = .ok (.putfield 174, 3)) (kk : ∀ (H1 : Heap) (locs1 : List Loc), va_P D vwCl (ws.set q0 (b, .inr (1, fs.set 12 (.int v)))) H1 → va_D A (ws.set q0 (b, .inr (1, fs.set 12 (.int v)))) → va_S A H0 H1 locs1 → W p l e R s m args below meth c H1 locs1 cells slots Q (F0 m (pc + 3) ls (rest))) : W p l e R s m args below meth c H locs cells slots Q (F0 m pc ls (.int v :: .ref b :: rest)) :=
  va_putN F.1 F.2.1 F.2.2.2.2.1 uw_X1 tyX1 tyX1_ok nmX1 F.2.2.2.1 hX.1 hP hD hS q0 he rfl 12 (by decide) (va_Nw.use rfl (hX.2 _ q_226)) (fun _ h => h) rfl (ty := .int) (v := .int v) (by decide +kernel) rfl rfl hl hdg kk
theorem gX5_14 (F : Fx p s m args meth c RX5 cc nL ret0) (hX : Cx D cI cP s) (hP : va_P D vwCl ws H) (q0 : Nat) (he : ws[q0]? = some (b, .inr (5, fs))) {v : Value} (hv : fs[0]? = some v) (hdg : decode cc pc = .ok (.getfield 14, 3)) (kk : W p l e R s m args below meth c H locs cells slots Q (F0 m (pc + 3) ls (v :: rest))) : W p l e R s m args below meth c H locs cells slots Q (F0 m pc ls (.ref b :: rest)) :=
  va_get F.1 F.2.1 F.2.2.2.2.1 uw_X5 F.2.2.2.1 hX.1 hP q0 he rfl 0 (by decide) (F.2.2.2.2.1 _ q_263) (fun _ h => h) hv hdg kk
theorem gX5_32 (F : Fx p s m args meth c RX5 cc nL ret0) (hX : Cx D cI cP s) (hP : va_P D vwCl ws H) (q0 : Nat) (he : ws[q0]? = some (b, .inr (5, fs))) {v : Value} (hv : fs[1]? = some v) (hdg : decode cc pc = .ok (.getfield 32, 3)) (kk : W p l e R s m args below meth c H locs cells slots Q (F0 m (pc + 3) ls (v :: rest))) : W p l e R s m args below meth c H locs cells slots Q (F0 m pc ls (.ref b :: rest)) :=
  va_get F.1 F.2.1 F.2.2.2.2.1 uw_X5 F.2.2.2.1 hX.1 hP q0 he rfl 1 (by decide) (F.2.2.2.2.1 _ q_264) (fun _ h => h) hv hdg kk
theorem pX5_32 (F : Fx p s m args meth c RX5 cc nL ret0) (hX : Cx D cI cP s) (hP : va_P D vwCl ws H) (hD : va_D A ws) (hS : va_S A H0 H locs) (q0 : Nat) (he : ws[q0]? = some (b, .inr (5, fs))) {v : Int32} (hl : 1 < fs.length) (hdg : decode cc pc = .ok (.putfield 32, 3)) (kk : ∀ (H1 : Heap) (locs1 : List Loc), va_P D vwCl (ws.set q0 (b, .inr (5, fs.set 1 (.int v)))) H1 → va_D A (ws.set q0 (b, .inr (5, fs.set 1 (.int v)))) → va_S A H0 H1 locs1 → W p l e R s m args below meth c H1 locs1 cells slots Q (F0 m (pc + 3) ls (rest))) : W p l e R s m args below meth c H locs cells slots Q (F0 m pc ls (.int v :: .ref b :: rest)) :=
  va_put F.1 F.2.1 F.2.2.2.2.1 uw_X5 tyX5 tyX5_ok nmX5 F.2.2.2.1 hX.1 hP hD hS q0 he rfl 1 (by decide) (F.2.2.2.2.1 _ q_264) (fun _ h => h) rfl (ty := .int) (v := .int v) (by decide +kernel) rfl rfl hl hdg kk
theorem gX5_29 (F : Fx p s m args meth c RX5 cc nL ret0) (hX : Cx D cI cP s) (hP : va_P D vwCl ws H) (q0 : Nat) (he : ws[q0]? = some (b, .inr (5, fs))) {v : Value} (hv : fs[2]? = some v) (hdg : decode cc pc = .ok (.getfield 29, 3)) (kk : W p l e R s m args below meth c H locs cells slots Q (F0 m (pc + 3) ls (v :: rest))) : W p l e R s m args below meth c H locs cells slots Q (F0 m pc ls (.ref b :: rest)) :=
  va_get F.1 F.2.1 F.2.2.2.2.1 uw_X5 F.2.2.2.1 hX.1 hP q0 he rfl 2 (by decide) (F.2.2.2.2.1 _ q_265) (fun _ h => h) hv hdg kk
theorem pX5_29 (F : Fx p s m args meth c RX5 cc nL ret0) (hX : Cx D cI cP s) (hP : va_P D vwCl ws H) (hD : va_D A ws) (hS : va_S A H0 H locs) (q0 : Nat) (he : ws[q0]? = some (b, .inr (5, fs))) {v : Int32} (hl : 2 < fs.length) (hdg : decode cc pc = .ok (.putfield 29, 3)) (kk : ∀ (H1 : Heap) (locs1 : List Loc), va_P D vwCl (ws.set q0 (b, .inr (5, fs.set 2 (.int v)))) H1 → va_D A (ws.set q0 (b, .inr (5, fs.set 2 (.int v)))) → va_S A H0 H1 locs1 → W p l e R s m args below meth c H1 locs1 cells slots Q (F0 m (pc + 3) ls (rest))) : W p l e R s m args below meth c H locs cells slots Q (F0 m pc ls (.int v :: .ref b :: rest)) :=
  va_put F.1 F.2.1 F.2.2.2.2.1 uw_X5 tyX5 tyX5_ok nmX5 F.2.2.2.1 hX.1 hP hD hS q0 he rfl 2 (by decide) (F.2.2.2.2.1 _ q_265) (fun _ h => h) rfl (ty := .int) (v := .int v) (by decide +kernel) rfl rfl hl hdg kk
theorem gX4_14 (F : Fx p s m args meth c RX4 cc nL ret0) (hX : Cx D cI cP s) (hP : va_P D vwCl ws H) (q0 : Nat) (he : ws[q0]? = some (b, .inr (4, fs))) {v : Value} (hv : fs[0]? = some v) (hdg : decode cc pc = .ok (.getfield 14, 3)) (kk : W p l e R s m args below meth c H locs cells slots Q (F0 m (pc + 3) ls (v :: rest))) : W p l e R s m args below meth c H locs cells slots Q (F0 m pc ls (.ref b :: rest)) :=
  va_get F.1 F.2.1 F.2.2.2.2.1 uw_X4 F.2.2.2.1 hX.1 hP q0 he rfl 0 (by decide) (F.2.2.2.2.1 _ q_281) (fun _ h => h) hv hdg kk
theorem gX4_23 (F : Fx p s m args meth c RX4 cc nL ret0) (hX : Cx D cI cP s) (hP : va_P D vwCl ws H) (q0 : Nat) (he : ws[q0]? = some (b, .inr (4, fs))) {v : Value} (hv : fs[1]? = some v) (hdg : decode cc pc = .ok (.getfield 23, 3)) (kk : W p l e R s m args below meth c H locs cells slots Q (F0 m (pc + 3) ls (v :: rest))) : W p l e R s m args below meth c H locs cells slots Q (F0 m pc ls (.ref b :: rest)) :=
  va_get F.1 F.2.1 F.2.2.2.2.1 uw_X4 F.2.2.2.1 hX.1 hP q0 he rfl 1 (by decide) (F.2.2.2.2.1 _ q_282) (fun _ h => h) hv hdg kk
theorem pX4_23 (F : Fx p s m args meth c RX4 cc nL ret0) (hX : Cx D cI cP s) (hP : va_P D vwCl ws H) (hD : va_D A ws) (hS : va_S A H0 H locs) (q0 : Nat) (he : ws[q0]? = some (b, .inr (4, fs))) {v : Int32} (hl : 1 < fs.length) (hdg : decode cc pc = .ok (.putfield 23, 3)) (kk : ∀ (H1 : Heap) (locs1 : List Loc), va_P D vwCl (ws.set q0 (b, .inr (4, fs.set 1 (.int v)))) H1 → va_D A (ws.set q0 (b, .inr (4, fs.set 1 (.int v)))) → va_S A H0 H1 locs1 → W p l e R s m args below meth c H1 locs1 cells slots Q (F0 m (pc + 3) ls (rest))) : W p l e R s m args below meth c H locs cells slots Q (F0 m pc ls (.int v :: .ref b :: rest)) :=
  va_put F.1 F.2.1 F.2.2.2.2.1 uw_X4 tyX4 tyX4_ok nmX4 F.2.2.2.1 hX.1 hP hD hS q0 he rfl 1 (by decide) (F.2.2.2.2.1 _ q_282) (fun _ h => h) rfl (ty := .int) (v := .int v) (by decide +kernel) rfl rfl hl hdg kk
theorem gX6_233 (F : Fx p s m args meth c RX6 cc nL ret0) (hX : Cx D cI cP s) (hP : va_P D vwCl ws H) (q0 : Nat) (he : ws[q0]? = some (b, .inr (4, fs))) {v : Value} (hv : fs[1]? = some v) (hdg : decode cc pc = .ok (.getfield 233, 3)) (kk : W p l e R s m args below meth c H locs cells slots Q (F0 m (pc + 3) ls (v :: rest))) : W p l e R s m args below meth c H locs cells slots Q (F0 m pc ls (.ref b :: rest)) :=
  va_getN F.1 F.2.1 F.2.2.2.2.1 uw_X4 F.2.2.2.1 hX.1 hP q0 he rfl 1 (by decide) (va_Nw.use rfl (hX.2 _ q_283)) (fun _ h => h) hv hdg kk
theorem pX6_233 (F : Fx p s m args meth c RX6 cc nL ret0) (hX : Cx D cI cP s) (hP : va_P D vwCl ws H) (hD : va_D A ws) (hS : va_S A H0 H locs) (q0 : Nat) (he : ws[q0]? = some (b, .inr (4, fs))) {v : Int32} (hl : 1 < fs.length) (hdg : decode cc pc = .ok (.putfield 233, 3)) (kk : ∀ (H1 : Heap) (locs1 : List Loc), va_P D vwCl (ws.set q0 (b, .inr (4, fs.set 1 (.int v)))) H1 → va_D A (ws.set q0 (b, .inr (4, fs.set 1 (.int v)))) → va_S A H0 H1 locs1 → W p l e R s m args below meth c H1 locs1 cells slots Q (F0 m (pc + 3) ls (rest))) : W p l e R s m args below meth c H locs cells slots Q (F0 m pc ls (.int v :: .ref b :: rest)) :=
  va_putN F.1 F.2.1 F.2.2.2.2.1 uw_X4 tyX4 tyX4_ok nmX4 F.2.2.2.1 hX.1 hP hD hS q0 he rfl 1 (by decide) (va_Nw.use rfl (hX.2 _ q_283)) (fun _ h => h) rfl (ty := .int) (v := .int v) (by decide +kernel) rfl rfl hl hdg kk
theorem gX4_42 (F : Fx p s m args meth c RX4 cc nL ret0) (hX : Cx D cI cP s) (hP : va_P D vwCl ws H) (q0 : Nat) (he : ws[q0]? = some (b, .inr (4, fs))) {v : Value} (hv : fs[2]? = some v) (hdg : decode cc pc = .ok (.getfield 42, 3)) (kk : W p l e R s m args below meth c H locs cells slots Q (F0 m (pc + 3) ls (v :: rest))) : W p l e R s m args below meth c H locs cells slots Q (F0 m pc ls (.ref b :: rest)) :=
  va_get F.1 F.2.1 F.2.2.2.2.1 uw_X4 F.2.2.2.1 hX.1 hP q0 he rfl 2 (by decide) (F.2.2.2.2.1 _ q_284) (fun _ h => h) hv hdg kk
theorem pX4_42 (F : Fx p s m args meth c RX4 cc nL ret0) (hX : Cx D cI cP s) (hP : va_P D vwCl ws H) (hD : va_D A ws) (hS : va_S A H0 H locs) (q0 : Nat) (he : ws[q0]? = some (b, .inr (4, fs))) {v : Int32} (hl : 2 < fs.length) (hdg : decode cc pc = .ok (.putfield 42, 3)) (kk : ∀ (H1 : Heap) (locs1 : List Loc), va_P D vwCl (ws.set q0 (b, .inr (4, fs.set 2 (.int v)))) H1 → va_D A (ws.set q0 (b, .inr (4, fs.set 2 (.int v)))) → va_S A H0 H1 locs1 → W p l e R s m args below meth c H1 locs1 cells slots Q (F0 m (pc + 3) ls (rest))) : W p l e R s m args below meth c H locs cells slots Q (F0 m pc ls (.int v :: .ref b :: rest)) :=
  va_put F.1 F.2.1 F.2.2.2.2.1 uw_X4 tyX4 tyX4_ok nmX4 F.2.2.2.1 hX.1 hP hD hS q0 he rfl 2 (by decide) (F.2.2.2.2.1 _ q_284) (fun _ h => h) rfl (ty := .int) (v := .int v) (by decide +kernel) rfl rfl hl hdg kk
theorem gX6_285 (F : Fx p s m args meth c RX6 cc nL ret0) (hX : Cx D cI cP s) (hP : va_P D vwCl ws H) (q0 : Nat) (he : ws[q0]? = some (b, .inr (4, fs))) {v : Value} (hv : fs[2]? = some v) (hdg : decode cc pc = .ok (.getfield 285, 3)) (kk : W p l e R s m args below meth c H locs cells slots Q (F0 m (pc + 3) ls (v :: rest))) : W p l e R s m args below meth c H locs cells slots Q (F0 m pc ls (.ref b :: rest)) :=
  va_getN F.1 F.2.1 F.2.2.2.2.1 uw_X4 F.2.2.2.1 hX.1 hP q0 he rfl 2 (by decide) (va_Nw.use rfl (hX.2 _ q_285)) (fun _ h => h) hv hdg kk
theorem pX6_285 (F : Fx p s m args meth c RX6 cc nL ret0) (hX : Cx D cI cP s) (hP : va_P D vwCl ws H) (hD : va_D A ws) (hS : va_S A H0 H locs) (q0 : Nat) (he : ws[q0]? = some (b, .inr (4, fs))) {v : Int32} (hl : 2 < fs.length) (hdg : decode cc pc = .ok (.putfield 285, 3)) (kk : ∀ (H1 : Heap) (locs1 : List Loc), va_P D vwCl (ws.set q0 (b, .inr (4, fs.set 2 (.int v)))) H1 → va_D A (ws.set q0 (b, .inr (4, fs.set 2 (.int v)))) → va_S A H0 H1 locs1 → W p l e R s m args below meth c H1 locs1 cells slots Q (F0 m (pc + 3) ls (rest))) : W p l e R s m args below meth c H locs cells slots Q (F0 m pc ls (.int v :: .ref b :: rest)) :=
  va_putN F.1 F.2.1 F.2.2.2.2.1 uw_X4 tyX4 tyX4_ok nmX4 F.2.2.2.1 hX.1 hP hD hS q0 he rfl 2 (by decide) (va_Nw.use rfl (hX.2 _ q_285)) (fun _ h => h) rfl (ty := .int) (v := .int v) (by decide +kernel) rfl rfl hl hdg kk
theorem gX4_20 (F : Fx p s m args meth c RX4 cc nL ret0) (hX : Cx D cI cP s) (hP : va_P D vwCl ws H) (q0 : Nat) (he : ws[q0]? = some (b, .inr (4, fs))) {v : Value} (hv : fs[3]? = some v) (hdg : decode cc pc = .ok (.getfield 20, 3)) (kk : W p l e R s m args below meth c H locs cells slots Q (F0 m (pc + 3) ls (v :: rest))) : W p l e R s m args below meth c H locs cells slots Q (F0 m pc ls (.ref b :: rest)) :=
  va_get F.1 F.2.1 F.2.2.2.2.1 uw_X4 F.2.2.2.1 hX.1 hP q0 he rfl 3 (by decide) (F.2.2.2.2.1 _ q_286) (fun _ h => h) hv hdg kk
theorem gX6_282 (F : Fx p s m args meth c RX6 cc nL ret0) (hX : Cx D cI cP s) (hP : va_P D vwCl ws H) (q0 : Nat) (he : ws[q0]? = some (b, .inr (4, fs))) {v : Value} (hv : fs[3]? = some v) (hdg : decode cc pc = .ok (.getfield 282, 3)) (kk : W p l e R s m args below meth c H locs cells slots Q (F0 m (pc + 3) ls (v :: rest))) : W p l e R s m args below meth c H locs cells slots Q (F0 m pc ls (.ref b :: rest)) :=
  va_getN F.1 F.2.1 F.2.2.2.2.1 uw_X4 F.2.2.2.1 hX.1 hP q0 he rfl 3 (by decide) (va_Nw.use rfl (hX.2 _ q_287)) (fun _ h => h) hv hdg kk
theorem gX4_31 (F : Fx p s m args meth c RX4 cc nL ret0) (hX : Cx D cI cP s) (hP : va_P D vwCl ws H) (q0 : Nat) (he : ws[q0]? = some (b, .inr (4, fs))) {v : Value} (hv : fs[4]? = some v) (hdg : decode cc pc = .ok (.getfield 31, 3)) (kk : W p l e R s m args below meth c H locs cells slots Q (F0 m (pc + 3) ls (v :: rest))) : W p l e R s m args below meth c H locs cells slots Q (F0 m pc ls (.ref b :: rest)) :=
  va_get F.1 F.2.1 F.2.2.2.2.1 uw_X4 F.2.2.2.1 hX.1 hP q0 he rfl 4 (by decide) (F.2.2.2.2.1 _ q_288) (fun _ h => h) hv hdg kk
theorem pX4_31 (F : Fx p s m args meth c RX4 cc nL ret0) (hX : Cx D cI cP s) (hP : va_P D vwCl ws H) (hD : va_D A ws) (hS : va_S A H0 H locs) (q0 : Nat) (he : ws[q0]? = some (b, .inr (4, fs))) {v : Int32} (hl : 4 < fs.length) (hdg : decode cc pc = .ok (.putfield 31, 3)) (kk : ∀ (H1 : Heap) (locs1 : List Loc), va_P D vwCl (ws.set q0 (b, .inr (4, fs.set 4 (.int v)))) H1 → va_D A (ws.set q0 (b, .inr (4, fs.set 4 (.int v)))) → va_S A H0 H1 locs1 → W p l e R s m args below meth c H1 locs1 cells slots Q (F0 m (pc + 3) ls (rest))) : W p l e R s m args below meth c H locs cells slots Q (F0 m pc ls (.int v :: .ref b :: rest)) :=
  va_put F.1 F.2.1 F.2.2.2.2.1 uw_X4 tyX4 tyX4_ok nmX4 F.2.2.2.1 hX.1 hP hD hS q0 he rfl 4 (by decide) (F.2.2.2.2.1 _ q_288) (fun _ h => h) rfl (ty := .int) (v := .int v) (by decide +kernel) rfl rfl hl hdg kk
theorem gX6_270 (F : Fx p s m args meth c RX6 cc nL ret0) (hX : Cx D cI cP s) (hP : va_P D vwCl ws H) (q0 : Nat) (he : ws[q0]? = some (b, .inr (4, fs))) {v : Value} (hv : fs[4]? = some v) (hdg : decode cc pc = .ok (.getfield 270, 3)) (kk : W p l e R s m args below meth c H locs cells slots Q (F0 m (pc + 3) ls (v :: rest))) : W p l e R s m args below meth c H locs cells slots Q (F0 m pc ls (.ref b :: rest)) :=
  va_getN F.1 F.2.1 F.2.2.2.2.1 uw_X4 F.2.2.2.1 hX.1 hP q0 he rfl 4 (by decide) (va_Nw.use rfl (hX.2 _ q_289)) (fun _ h => h) hv hdg kk
theorem pX6_270 (F : Fx p s m args meth c RX6 cc nL ret0) (hX : Cx D cI cP s) (hP : va_P D vwCl ws H) (hD : va_D A ws) (hS : va_S A H0 H locs) (q0 : Nat) (he : ws[q0]? = some (b, .inr (4, fs))) {v : Int32} (hl : 4 < fs.length) (hdg : decode cc pc = .ok (.putfield 270, 3)) (kk : ∀ (H1 : Heap) (locs1 : List Loc), va_P D vwCl (ws.set q0 (b, .inr (4, fs.set 4 (.int v)))) H1 → va_D A (ws.set q0 (b, .inr (4, fs.set 4 (.int v)))) → va_S A H0 H1 locs1 → W p l e R s m args below meth c H1 locs1 cells slots Q (F0 m (pc + 3) ls (rest))) : W p l e R s m args below meth c H locs cells slots Q (F0 m pc ls (.int v :: .ref b :: rest)) :=
  va_putN F.1 F.2.1 F.2.2.2.2.1 uw_X4 tyX4 tyX4_ok nmX4 F.2.2.2.1 hX.1 hP hD hS q0 he rfl 4 (by decide) (va_Nw.use rfl (hX.2 _ q_289)) (fun _ h => h) rfl (ty := .int) (v := .int v) (by decide +kernel) rfl rfl hl hdg kk
theorem gX6_10 (F : Fx p s m args meth c RX6 cc nL ret0) (hX : Cx D cI cP s) (hP : va_P D vwCl ws H) (q0 : Nat) (he : ws[q0]? = some (b, .inr (6, fs))) {v : Value} (hv : fs[0]? = some v) (hdg : decode cc pc = .ok (.getfield 10, 3)) (kk : W p l e R s m args below meth c H locs cells slots Q (F0 m (pc + 3) ls (v :: rest))) : W p l e R s m args below meth c H locs cells slots Q (F0 m pc ls (.ref b :: rest)) :=
  va_get F.1 F.2.1 F.2.2.2.2.1 uw_X6 F.2.2.2.1 hX.1 hP q0 he rfl 0 (by decide) (F.2.2.2.2.1 _ q_301) (fun _ h => h) hv hdg kk
theorem gX6_16 (F : Fx p s m args meth c RX6 cc nL ret0) (hX : Cx D cI cP s) (hP : va_P D vwCl ws H) (q0 : Nat) (he : ws[q0]? = some (b, .inr (6, fs))) {v : Value} (hv : fs[1]? = some v) (hdg : decode cc pc = .ok (.getfield 16, 3)) (kk : W p l e R s m args below meth c H locs cells slots Q (F0 m (pc + 3) ls (v :: rest))) : W p l e R s m args below meth c H locs cells slots Q (F0 m pc ls (.ref b :: rest)) :=
  va_get F.1 F.2.1 F.2.2.2.2.1 uw_X6 F.2.2.2.1 hX.1 hP q0 he rfl 1 (by decide) (F.2.2.2.2.1 _ q_302) (fun _ h => h) hv hdg kk
theorem gX6_19 (F : Fx p s m args meth c RX6 cc nL ret0) (hX : Cx D cI cP s) (hP : va_P D vwCl ws H) (q0 : Nat) (he : ws[q0]? = some (b, .inr (6, fs))) {v : Value} (hv : fs[2]? = some v) (hdg : decode cc pc = .ok (.getfield 19, 3)) (kk : W p l e R s m args below meth c H locs cells slots Q (F0 m (pc + 3) ls (v :: rest))) : W p l e R s m args below meth c H locs cells slots Q (F0 m pc ls (.ref b :: rest)) :=
  va_get F.1 F.2.1 F.2.2.2.2.1 uw_X6 F.2.2.2.1 hX.1 hP q0 he rfl 2 (by decide) (F.2.2.2.2.1 _ q_303) (fun _ h => h) hv hdg kk
theorem gX6_291 (F : Fx p s m args meth c RX6 cc nL ret0) (hX : Cx D cI cP s) (hP : va_P D vwCl ws H) (q0 : Nat) (he : ws[q0]? = some (b, .inr (6, fs))) {v : Value} (hv : fs[3]? = some v) (hdg : decode cc pc = .ok (.getfield 291, 3)) (kk : W p l e R s m args below meth c H locs cells slots Q (F0 m (pc + 3) ls (v :: rest))) : W p l e R s m args below meth c H locs cells slots Q (F0 m pc ls (.ref b :: rest)) :=
  va_get F.1 F.2.1 F.2.2.2.2.1 uw_X6 F.2.2.2.1 hX.1 hP q0 he rfl 3 (by decide) (F.2.2.2.2.1 _ q_304) (fun _ h => h) hv hdg kk
theorem pX6_291 (F : Fx p s m args meth c RX6 cc nL ret0) (hX : Cx D cI cP s) (hP : va_P D vwCl ws H) (hD : va_D A ws) (hS : va_S A H0 H locs) (q0 : Nat) (he : ws[q0]? = some (b, .inr (6, fs))) {v : Int32} (hl : 3 < fs.length) (hdg : decode cc pc = .ok (.putfield 291, 3)) (kk : ∀ (H1 : Heap) (locs1 : List Loc), va_P D vwCl (ws.set q0 (b, .inr (6, fs.set 3 (.int v)))) H1 → va_D A (ws.set q0 (b, .inr (6, fs.set 3 (.int v)))) → va_S A H0 H1 locs1 → W p l e R s m args below meth c H1 locs1 cells slots Q (F0 m (pc + 3) ls (rest))) : W p l e R s m args below meth c H locs cells slots Q (F0 m pc ls (.int v :: .ref b :: rest)) :=
  va_put F.1 F.2.1 F.2.2.2.2.1 uw_X6 tyX6 tyX6_ok nmX6 F.2.2.2.1 hX.1 hP hD hS q0 he rfl 3 (by decide) (F.2.2.2.2.1 _ q_304) (fun _ h => h) rfl (ty := .int) (v := .int v) (by decide +kernel) rfl rfl hl hdg kk
theorem gX6_230 (F : Fx p s m args meth c RX6 cc nL ret0) (hX : Cx D cI cP s) (hP : va_P D vwCl ws H) (q0 : Nat) (he : ws[q0]? = some (b, .inr (6, fs))) {v : Value} (hv : fs[4]? = some v) (hdg : decode cc pc = .ok (.getfield 230, 3)) (kk : W p l e R s m args below meth c H locs cells slots Q (F0 m (pc + 3) ls (v :: rest))) : W p l e R s m args below meth c H locs cells slots Q (F0 m pc ls (.ref b :: rest)) :=
  va_get F.1 F.2.1 F.2.2.2.2.1 uw_X6 F.2.2.2.1 hX.1 hP q0 he rfl 4 (by decide) (F.2.2.2.2.1 _ q_305) (fun _ h => h) hv hdg kk
theorem pX6_230 (F : Fx p s m args meth c RX6 cc nL ret0) (hX : Cx D cI cP s) (hP : va_P D vwCl ws H) (hD : va_D A ws) (hS : va_S A H0 H locs) (q0 : Nat) (he : ws[q0]? = some (b, .inr (6, fs))) {v : Int32} (hl : 4 < fs.length) (hdg : decode cc pc = .ok (.putfield 230, 3)) (kk : ∀ (H1 : Heap) (locs1 : List Loc), va_P D vwCl (ws.set q0 (b, .inr (6, fs.set 4 (.int v)))) H1 → va_D A (ws.set q0 (b, .inr (6, fs.set 4 (.int v)))) → va_S A H0 H1 locs1 → W p l e R s m args below meth c H1 locs1 cells slots Q (F0 m (pc + 3) ls (rest))) : W p l e R s m args below meth c H locs cells slots Q (F0 m pc ls (.int v :: .ref b :: rest)) :=
  va_put F.1 F.2.1 F.2.2.2.2.1 uw_X6 tyX6 tyX6_ok nmX6 F.2.2.2.1 hX.1 hP hD hS q0 he rfl 4 (by decide) (F.2.2.2.2.1 _ q_305) (fun _ h => h) rfl (ty := .int) (v := .int v) (by decide +kernel) rfl rfl hl hdg kk
theorem gX6_26 (F : Fx p s m args meth c RX6 cc nL ret0) (hX : Cx D cI cP s) (hP : va_P D vwCl ws H) (q0 : Nat) (he : ws[q0]? = some (b, .inr (6, fs))) {v : Value} (hv : fs[5]? = some v) (hdg : decode cc pc = .ok (.getfield 26, 3)) (kk : W p l e R s m args below meth c H locs cells slots Q (F0 m (pc + 3) ls (v :: rest))) : W p l e R s m args below meth c H locs cells slots Q (F0 m pc ls (.ref b :: rest)) :=
  va_get F.1 F.2.1 F.2.2.2.2.1 uw_X6 F.2.2.2.1 hX.1 hP q0 he rfl 5 (by decide) (F.2.2.2.2.1 _ q_306) (fun _ h => h) hv hdg kk
theorem gX6_33 (F : Fx p s m args meth c RX6 cc nL ret0) (hX : Cx D cI cP s) (hP : va_P D vwCl ws H) (q0 : Nat) (he : ws[q0]? = some (b, .inr (6, fs))) {v : Value} (hv : fs[6]? = some v) (hdg : decode cc pc = .ok (.getfield 33, 3)) (kk : W p l e R s m args below meth c H locs cells slots Q (F0 m (pc + 3) ls (v :: rest))) : W p l e R s m args below meth c H locs cells slots Q (F0 m pc ls (.ref b :: rest)) :=
  va_get F.1 F.2.1 F.2.2.2.2.1 uw_X6 F.2.2.2.1 hX.1 hP q0 he rfl 6 (by decide) (F.2.2.2.2.1 _ q_307) (fun _ h => h) hv hdg kk
theorem gX6_264 (F : Fx p s m args meth c RX6 cc nL ret0) (hX : Cx D cI cP s) (hP : va_P D vwCl ws H) (q0 : Nat) (he : ws[q0]? = some (b, .inr (6, fs))) {v : Value} (hv : fs[7]? = some v) (hdg : decode cc pc = .ok (.getfield 264, 3)) (kk : W p l e R s m args below meth c H locs cells slots Q (F0 m (pc + 3) ls (v :: rest))) : W p l e R s m args below meth c H locs cells slots Q (F0 m pc ls (.ref b :: rest)) :=
  va_get F.1 F.2.1 F.2.2.2.2.1 uw_X6 F.2.2.2.1 hX.1 hP q0 he rfl 7 (by decide) (F.2.2.2.2.1 _ q_308) (fun _ h => h) hv hdg kk
theorem pX6_264 (F : Fx p s m args meth c RX6 cc nL ret0) (hX : Cx D cI cP s) (hP : va_P D vwCl ws H) (hD : va_D A ws) (hS : va_S A H0 H locs) (q0 : Nat) (he : ws[q0]? = some (b, .inr (6, fs))) {v : Int32} (hl : 7 < fs.length) (hdg : decode cc pc = .ok (.putfield 264, 3)) (kk : ∀ (H1 : Heap) (locs1 : List Loc), va_P D vwCl (ws.set q0 (b, .inr (6, fs.set 7 (.int v)))) H1 → va_D A (ws.set q0 (b, .inr (6, fs.set 7 (.int v)))) → va_S A H0 H1 locs1 → W p l e R s m args below meth c H1 locs1 cells slots Q (F0 m (pc + 3) ls (rest))) : W p l e R s m args below meth c H locs cells slots Q (F0 m pc ls (.int v :: .ref b :: rest)) :=
  va_put F.1 F.2.1 F.2.2.2.2.1 uw_X6 tyX6 tyX6_ok nmX6 F.2.2.2.1 hX.1 hP hD hS q0 he rfl 7 (by decide) (F.2.2.2.2.1 _ q_308) (fun _ h => h) rfl (ty := .int) (v := .int v) (by decide +kernel) rfl rfl hl hdg kk
theorem gX6_255 (F : Fx p s m args meth c RX6 cc nL ret0) (hX : Cx D cI cP s) (hP : va_P D vwCl ws H) (q0 : Nat) (he : ws[q0]? = some (b, .inr (6, fs))) {v : Value} (hv : fs[8]? = some v) (hdg : decode cc pc = .ok (.getfield 255, 3)) (kk : W p l e R s m args below meth c H locs cells slots Q (F0 m (pc + 3) ls (v :: rest))) : W p l e R s m args below meth c H locs cells slots Q (F0 m pc ls (.ref b :: rest)) :=
  va_get F.1 F.2.1 F.2.2.2.2.1 uw_X6 F.2.2.2.1 hX.1 hP q0 he rfl 8 (by decide) (F.2.2.2.2.1 _ q_309) (fun _ h => h) hv hdg kk
theorem pX6_255 (F : Fx p s m args meth c RX6 cc nL ret0) (hX : Cx D cI cP s) (hP : va_P D vwCl ws H) (hD : va_D A ws) (hS : va_S A H0 H locs) (q0 : Nat) (he : ws[q0]? = some (b, .inr (6, fs))) {v : Int32} (hl : 8 < fs.length) (hdg : decode cc pc = .ok (.putfield 255, 3)) (kk : ∀ (H1 : Heap) (locs1 : List Loc), va_P D vwCl (ws.set q0 (b, .inr (6, fs.set 8 (.int v)))) H1 → va_D A (ws.set q0 (b, .inr (6, fs.set 8 (.int v)))) → va_S A H0 H1 locs1 → W p l e R s m args below meth c H1 locs1 cells slots Q (F0 m (pc + 3) ls (rest))) : W p l e R s m args below meth c H locs cells slots Q (F0 m pc ls (.int v :: .ref b :: rest)) :=
  va_put F.1 F.2.1 F.2.2.2.2.1 uw_X6 tyX6 tyX6_ok nmX6 F.2.2.2.1 hX.1 hP hD hS q0 he rfl 8 (by decide) (F.2.2.2.2.1 _ q_309) (fun _ h => h) rfl (ty := .int) (v := .int v) (by decide +kernel) rfl rfl hl hdg kk
theorem gX6_258 (F : Fx p s m args meth c RX6 cc nL ret0) (hX : Cx D cI cP s) (hP : va_P D vwCl ws H) (q0 : Nat) (he : ws[q0]? = some (b, .inr (6, fs))) {v : Value} (hv : fs[9]? = some v) (hdg : decode cc pc = .ok (.getfield 258, 3)) (kk : W p l e R s m args below meth c H locs cells slots Q (F0 m (pc + 3) ls (v :: rest))) : W p l e R s m args below meth c H locs cells slots Q (F0 m pc ls (.ref b :: rest)) :=
  va_get F.1 F.2.1 F.2.2.2.2.1 uw_X6 F.2.2.2.1 hX.1 hP q0 he rfl 9 (by decide) (F.2.2.2.2.1 _ q_310) (fun _ h => h) hv hdg kk
theorem pX6_258 (F : Fx p s m args meth c RX6 cc nL ret0) (hX : Cx D cI cP s) (hP : va_P D vwCl ws H) (hD : va_D A ws) (hS : va_S A H0 H locs) (q0 : Nat) (he : ws[q0]? = some (b, .inr (6, fs))) {v : Int32} (hl : 9 < fs.length) (hdg : decode cc pc = .ok (.putfield 258, 3)) (kk : ∀ (H1 : Heap) (locs1 : List Loc), va_P D vwCl (ws.set q0 (b, .inr (6, fs.set 9 (.int v)))) H1 → va_D A (ws.set q0 (b, .inr (6, fs.set 9 (.int v)))) → va_S A H0 H1 locs1 → W p l e R s m args below meth c H1 locs1 cells slots Q (F0 m (pc + 3) ls (rest))) : W p l e R s m args below meth c H locs cells slots Q (F0 m pc ls (.int v :: .ref b :: rest)) :=
  va_put F.1 F.2.1 F.2.2.2.2.1 uw_X6 tyX6 tyX6_ok nmX6 F.2.2.2.1 hX.1 hP hD hS q0 he rfl 9 (by decide) (F.2.2.2.2.1 _ q_310) (fun _ h => h) rfl (ty := .int) (v := .int v) (by decide +kernel) rfl rfl hl hdg kk
theorem gX6_261 (F : Fx p s m args meth c RX6 cc nL ret0) (hX : Cx D cI cP s) (hP : va_P D vwCl ws H) (q0 : Nat) (he : ws[q0]? = some (b, .inr (6, fs))) {v : Value} (hv : fs[10]? = some v) (hdg : decode cc pc = .ok (.getfield 261, 3)) (kk : W p l e R s m args below meth c H locs cells slots Q (F0 m (pc + 3) ls (v :: rest))) : W p l e R s m args below meth c H locs cells slots Q (F0 m pc ls (.ref b :: rest)) :=
  va_get F.1 F.2.1 F.2.2.2.2.1 uw_X6 F.2.2.2.1 hX.1 hP q0 he rfl 10 (by decide) (F.2.2.2.2.1 _ q_311) (fun _ h => h) hv hdg kk
theorem pX6_261 (F : Fx p s m args meth c RX6 cc nL ret0) (hX : Cx D cI cP s) (hP : va_P D vwCl ws H) (hD : va_D A ws) (hS : va_S A H0 H locs) (q0 : Nat) (he : ws[q0]? = some (b, .inr (6, fs))) {v : Int32} (hl : 10 < fs.length) (hdg : decode cc pc = .ok (.putfield 261, 3)) (kk : ∀ (H1 : Heap) (locs1 : List Loc), va_P D vwCl (ws.set q0 (b, .inr (6, fs.set 10 (.int v)))) H1 → va_D A (ws.set q0 (b, .inr (6, fs.set 10 (.int v)))) → va_S A H0 H1 locs1 → W p l e R s m args below meth c H1 locs1 cells slots Q (F0 m (pc + 3) ls (rest))) : W p l e R s m args below meth c H locs cells slots Q (F0 m pc ls (.int v :: .ref b :: rest)) :=
  va_put F.1 F.2.1 F.2.2.2.2.1 uw_X6 tyX6 tyX6_ok nmX6 F.2.2.2.1 hX.1 hP hD hS q0 he rfl 10 (by decide) (F.2.2.2.2.1 _ q_311) (fun _ h => h) rfl (ty := .int) (v := .int v) (by decide +kernel) rfl rfl hl hdg kk
theorem gX7_7 (F : Fx p s m args meth c RX7 cc nL ret0) (hX : Cx D cI cP s) (hP : va_P D vwCl ws H) (q0 : Nat) (he : ws[q0]? = some (b, .inr (7, fs))) {v : Value} (hv : fs[0]? = some v) (hdg : decode cc pc = .ok (.getfield 7, 3)) (kk : W p l e R s m args below meth c H locs cells slots Q (F0 m (pc + 3) ls (v :: rest))) : W p l e R s m args below meth c H locs cells slots Q (F0 m pc ls (.ref b :: rest)) :=
  va_get F.1 F.2.1 F.2.2.2.2.1 uw_X7 F.2.2.2.1 hX.1 hP q0 he rfl 0 (by decide) (F.2.2.2.2.1 _ q_756) (fun _ h => h) hv hdg kk
theorem gX7_13 (F : Fx p s m args meth c RX7 cc nL ret0) (hX : Cx D cI cP s) (hP : va_P D vwCl ws H) (q0 : Nat) (he : ws[q0]? = some (b, .inr (7, fs))) {v : Value} (hv : fs[1]? = some v) (hdg : decode cc pc = .ok (.getfield 13, 3)) (kk : W p l e R s m args below meth c H locs cells slots Q (F0 m (pc + 3) ls (v :: rest))) : W p l e R s m args below meth c H locs cells slots Q (F0 m pc ls (.ref b :: rest)) :=
  va_get F.1 F.2.1 F.2.2.2.2.1 uw_X7 F.2.2.2.1 hX.1 hP q0 he rfl 1 (by decide) (F.2.2.2.2.1 _ q_757) (fun _ h => h) hv hdg kk
theorem gX7_16 (F : Fx p s m args meth c RX7 cc nL ret0) (hX : Cx D cI cP s) (hP : va_P D vwCl ws H) (q0 : Nat) (he : ws[q0]? = some (b, .inr (7, fs))) {v : Value} (hv : fs[2]? = some v) (hdg : decode cc pc = .ok (.getfield 16, 3)) (kk : W p l e R s m args below meth c H locs cells slots Q (F0 m (pc + 3) ls (v :: rest))) : W p l e R s m args below meth c H locs cells slots Q (F0 m pc ls (.ref b :: rest)) :=
  va_get F.1 F.2.1 F.2.2.2.2.1 uw_X7 F.2.2.2.1 hX.1 hP q0 he rfl 2 (by decide) (F.2.2.2.2.1 _ q_758) (fun _ h => h) hv hdg kk
theorem gX7_41 (F : Fx p s m args meth c RX7 cc nL ret0) (hX : Cx D cI cP s) (hP : va_P D vwCl ws H) (q0 : Nat) (he : ws[q0]? = some (b, .inr (7, fs))) {v : Value} (hv : fs[3]? = some v) (hdg : decode cc pc = .ok (.getfield 41, 3)) (kk : W p l e R s m args below meth c H locs cells slots Q (F0 m (pc + 3) ls (v :: rest))) : W p l e R s m args below meth c H locs cells slots Q (F0 m pc ls (.ref b :: rest)) :=
  va_get F.1 F.2.1 F.2.2.2.2.1 uw_X7 F.2.2.2.1 hX.1 hP q0 he rfl 3 (by decide) (F.2.2.2.2.1 _ q_759) (fun _ h => h) hv hdg kk
theorem pX7_41 (F : Fx p s m args meth c RX7 cc nL ret0) (hX : Cx D cI cP s) (hP : va_P D vwCl ws H) (hD : va_D A ws) (hS : va_S A H0 H locs) (q0 : Nat) (he : ws[q0]? = some (b, .inr (7, fs))) {v : Int32} (hl : 3 < fs.length) (hdg : decode cc pc = .ok (.putfield 41, 3)) (kk : ∀ (H1 : Heap) (locs1 : List Loc), va_P D vwCl (ws.set q0 (b, .inr (7, fs.set 3 (.int v)))) H1 → va_D A (ws.set q0 (b, .inr (7, fs.set 3 (.int v)))) → va_S A H0 H1 locs1 → W p l e R s m args below meth c H1 locs1 cells slots Q (F0 m (pc + 3) ls (rest))) : W p l e R s m args below meth c H locs cells slots Q (F0 m pc ls (.int v :: .ref b :: rest)) :=
  va_put F.1 F.2.1 F.2.2.2.2.1 uw_X7 tyX7 tyX7_ok nmX7 F.2.2.2.1 hX.1 hP hD hS q0 he rfl 3 (by decide) (F.2.2.2.2.1 _ q_759) (fun _ h => h) rfl (ty := .int) (v := .int v) (by decide +kernel) rfl rfl hl hdg kk
theorem gX7_37 (F : Fx p s m args meth c RX7 cc nL ret0) (hX : Cx D cI cP s) (hP : va_P D vwCl ws H) (q0 : Nat) (he : ws[q0]? = some (b, .inr (7, fs))) {v : Value} (hv : fs[4]? = some v) (hdg : decode cc pc = .ok (.getfield 37, 3)) (kk : W p l e R s m args below meth c H locs cells slots Q (F0 m (pc + 3) ls (v :: rest))) : W p l e R s m args below meth c H locs cells slots Q (F0 m pc ls (.ref b :: rest)) :=
  va_get F.1 F.2.1 F.2.2.2.2.1 uw_X7 F.2.2.2.1 hX.1 hP q0 he rfl 4 (by decide) (F.2.2.2.2.1 _ q_760) (fun _ h => h) hv hdg kk
theorem pX7_37 (F : Fx p s m args meth c RX7 cc nL ret0) (hX : Cx D cI cP s) (hP : va_P D vwCl ws H) (hD : va_D A ws) (hS : va_S A H0 H locs) (q0 : Nat) (he : ws[q0]? = some (b, .inr (7, fs))) {v : Int32} (hn : narrow .boolean (.int v) = .int v) (hfit : fits .boolean (.int v) = true) (hl : 4 < fs.length) (hdg : decode cc pc = .ok (.putfield 37, 3)) (kk : ∀ (H1 : Heap) (locs1 : List Loc), va_P D vwCl (ws.set q0 (b, .inr (7, fs.set 4 (.int v)))) H1 → va_D A (ws.set q0 (b, .inr (7, fs.set 4 (.int v)))) → va_S A H0 H1 locs1 → W p l e R s m args below meth c H1 locs1 cells slots Q (F0 m (pc + 3) ls (rest))) : W p l e R s m args below meth c H locs cells slots Q (F0 m pc ls (.int v :: .ref b :: rest)) :=
  va_put F.1 F.2.1 F.2.2.2.2.1 uw_X7 tyX7 tyX7_ok nmX7 F.2.2.2.1 hX.1 hP hD hS q0 he rfl 4 (by decide) (F.2.2.2.2.1 _ q_760) (fun _ h => h) rfl (ty := .boolean) (v := .int v) (by decide +kernel) hn hfit hl hdg kk
theorem gX7_19 (F : Fx p s m args meth c RX7 cc nL ret0) (hX : Cx D cI cP s) (hP : va_P D vwCl ws H) (q0 : Nat) (he : ws[q0]? = some (b, .inr (7, fs))) {v : Value} (hv : fs[5]? = some v) (hdg : decode cc pc = .ok (.getfield 19, 3)) (kk : W p l e R s m args below meth c H locs cells slots Q (F0 m (pc + 3) ls (v :: rest))) : W p l e R s m args below meth c H locs cells slots Q (F0 m pc ls (.ref b :: rest)) :=
  va_get F.1 F.2.1 F.2.2.2.2.1 uw_X7 F.2.2.2.1 hX.1 hP q0 he rfl 5 (by decide) (F.2.2.2.2.1 _ q_761) (fun _ h => h) hv hdg kk
theorem gX7_160 (F : Fx p s m args meth c RX7 cc nL ret0) (hX : Cx D cI cP s) (hP : va_P D vwCl ws H) (q0 : Nat) (he : ws[q0]? = some (b, .inr (7, fs))) {v : Value} (hv : fs[6]? = some v) (hdg : decode cc pc = .ok (.getfield 160, 3)) (kk : W p l e R s m args below meth c H locs cells slots Q (F0 m (pc + 3) ls (v :: rest))) : W p l e R s m args below meth c H locs cells slots Q (F0 m pc ls (.ref b :: rest)) :=
  va_get F.1 F.2.1 F.2.2.2.2.1 uw_X7 F.2.2.2.1 hX.1 hP q0 he rfl 6 (by decide) (F.2.2.2.2.1 _ q_762) (fun _ h => h) hv hdg kk
theorem pX7_160 (F : Fx p s m args meth c RX7 cc nL ret0) (hX : Cx D cI cP s) (hP : va_P D vwCl ws H) (hD : va_D A ws) (hS : va_S A H0 H locs) (q0 : Nat) (he : ws[q0]? = some (b, .inr (7, fs))) {v : Int32} (hl : 6 < fs.length) (hdg : decode cc pc = .ok (.putfield 160, 3)) (kk : ∀ (H1 : Heap) (locs1 : List Loc), va_P D vwCl (ws.set q0 (b, .inr (7, fs.set 6 (.int v)))) H1 → va_D A (ws.set q0 (b, .inr (7, fs.set 6 (.int v)))) → va_S A H0 H1 locs1 → W p l e R s m args below meth c H1 locs1 cells slots Q (F0 m (pc + 3) ls (rest))) : W p l e R s m args below meth c H locs cells slots Q (F0 m pc ls (.int v :: .ref b :: rest)) :=
  va_put F.1 F.2.1 F.2.2.2.2.1 uw_X7 tyX7 tyX7_ok nmX7 F.2.2.2.1 hX.1 hP hD hS q0 he rfl 6 (by decide) (F.2.2.2.2.1 _ q_762) (fun _ h => h) rfl (ty := .int) (v := .int v) (by decide +kernel) rfl rfl hl hdg kk
theorem gX7_22 (F : Fx p s m args meth c RX7 cc nL ret0) (hX : Cx D cI cP s) (hP : va_P D vwCl ws H) (q0 : Nat) (he : ws[q0]? = some (b, .inr (7, fs))) {v : Value} (hv : fs[7]? = some v) (hdg : decode cc pc = .ok (.getfield 22, 3)) (kk : W p l e R s m args below meth c H locs cells slots Q (F0 m (pc + 3) ls (v :: rest))) : W p l e R s m args below meth c H locs cells slots Q (F0 m pc ls (.ref b :: rest)) :=
  va_get F.1 F.2.1 F.2.2.2.2.1 uw_X7 F.2.2.2.1 hX.1 hP q0 he rfl 7 (by decide) (F.2.2.2.2.1 _ q_763) (fun _ h => h) hv hdg kk
theorem gX7_25 (F : Fx p s m args meth c RX7 cc nL ret0) (hX : Cx D cI cP s) (hP : va_P D vwCl ws H) (q0 : Nat) (he : ws[q0]? = some (b, .inr (7, fs))) {v : Value} (hv : fs[8]? = some v) (hdg : decode cc pc = .ok (.getfield 25, 3)) (kk : W p l e R s m args below meth c H locs cells slots Q (F0 m (pc + 3) ls (v :: rest))) : W p l e R s m args below meth c H locs cells slots Q (F0 m pc ls (.ref b :: rest)) :=
  va_get F.1 F.2.1 F.2.2.2.2.1 uw_X7 F.2.2.2.1 hX.1 hP q0 he rfl 8 (by decide) (F.2.2.2.2.1 _ q_764) (fun _ h => h) hv hdg kk
theorem gX7_28 (F : Fx p s m args meth c RX7 cc nL ret0) (hX : Cx D cI cP s) (hP : va_P D vwCl ws H) (q0 : Nat) (he : ws[q0]? = some (b, .inr (7, fs))) {v : Value} (hv : fs[9]? = some v) (hdg : decode cc pc = .ok (.getfield 28, 3)) (kk : W p l e R s m args below meth c H locs cells slots Q (F0 m (pc + 3) ls (v :: rest))) : W p l e R s m args below meth c H locs cells slots Q (F0 m pc ls (.ref b :: rest)) :=
  va_get F.1 F.2.1 F.2.2.2.2.1 uw_X7 F.2.2.2.1 hX.1 hP q0 he rfl 9 (by decide) (F.2.2.2.2.1 _ q_765) (fun _ h => h) hv hdg kk
theorem gX7_31 (F : Fx p s m args meth c RX7 cc nL ret0) (hX : Cx D cI cP s) (hP : va_P D vwCl ws H) (q0 : Nat) (he : ws[q0]? = some (b, .inr (7, fs))) {v : Value} (hv : fs[10]? = some v) (hdg : decode cc pc = .ok (.getfield 31, 3)) (kk : W p l e R s m args below meth c H locs cells slots Q (F0 m (pc + 3) ls (v :: rest))) : W p l e R s m args below meth c H locs cells slots Q (F0 m pc ls (.ref b :: rest)) :=
  va_get F.1 F.2.1 F.2.2.2.2.1 uw_X7 F.2.2.2.1 hX.1 hP q0 he rfl 10 (by decide) (F.2.2.2.2.1 _ q_766) (fun _ h => h) hv hdg kk
theorem gX7_163 (F : Fx p s m args meth c RX7 cc nL ret0) (hX : Cx D cI cP s) (hP : va_P D vwCl ws H) (q0 : Nat) (he : ws[q0]? = some (b, .inr (7, fs))) {v : Value} (hv : fs[11]? = some v) (hdg : decode cc pc = .ok (.getfield 163, 3)) (kk : W p l e R s m args below meth c H locs cells slots Q (F0 m (pc + 3) ls (v :: rest))) : W p l e R s m args below meth c H locs cells slots Q (F0 m pc ls (.ref b :: rest)) :=
  va_get F.1 F.2.1 F.2.2.2.2.1 uw_X7 F.2.2.2.1 hX.1 hP q0 he rfl 11 (by decide) (F.2.2.2.2.1 _ q_767) (fun _ h => h) hv hdg kk
theorem pX7_163 (F : Fx p s m args meth c RX7 cc nL ret0) (hX : Cx D cI cP s) (hP : va_P D vwCl ws H) (hD : va_D A ws) (hS : va_S A H0 H locs) (q0 : Nat) (he : ws[q0]? = some (b, .inr (7, fs))) {v : Int32} (hl : 11 < fs.length) (hdg : decode cc pc = .ok (.putfield 163, 3)) (kk : ∀ (H1 : Heap) (locs1 : List Loc), va_P D vwCl (ws.set q0 (b, .inr (7, fs.set 11 (.int v)))) H1 → va_D A (ws.set q0 (b, .inr (7, fs.set 11 (.int v)))) → va_S A H0 H1 locs1 → W p l e R s m args below meth c H1 locs1 cells slots Q (F0 m (pc + 3) ls (rest))) : W p l e R s m args below meth c H locs cells slots Q (F0 m pc ls (.int v :: .ref b :: rest)) :=
  va_put F.1 F.2.1 F.2.2.2.2.1 uw_X7 tyX7 tyX7_ok nmX7 F.2.2.2.1 hX.1 hP hD hS q0 he rfl 11 (by decide) (F.2.2.2.2.1 _ q_767) (fun _ h => h) rfl (ty := .int) (v := .int v) (by decide +kernel) rfl rfl hl hdg kk
theorem gX7_200 (F : Fx p s m args meth c RX7 cc nL ret0) (hX : Cx D cI cP s) (hP : va_P D vwCl ws H) (q0 : Nat) (he : ws[q0]? = some (b, .inr (7, fs))) {v : Value} (hv : fs[12]? = some v) (hdg : decode cc pc = .ok (.getfield 200, 3)) (kk : W p l e R s m args below meth c H locs cells slots Q (F0 m (pc + 3) ls (v :: rest))) : W p l e R s m args below meth c H locs cells slots Q (F0 m pc ls (.ref b :: rest)) :=
  va_get F.1 F.2.1 F.2.2.2.2.1 uw_X7 F.2.2.2.1 hX.1 hP q0 he rfl 12 (by decide) (F.2.2.2.2.1 _ q_768) (fun _ h => h) hv hdg kk
theorem pX7_200 (F : Fx p s m args meth c RX7 cc nL ret0) (hX : Cx D cI cP s) (hP : va_P D vwCl ws H) (hD : va_D A ws) (hS : va_S A H0 H locs) (q0 : Nat) (he : ws[q0]? = some (b, .inr (7, fs))) {v : Int32} (hl : 12 < fs.length) (hdg : decode cc pc = .ok (.putfield 200, 3)) (kk : ∀ (H1 : Heap) (locs1 : List Loc), va_P D vwCl (ws.set q0 (b, .inr (7, fs.set 12 (.int v)))) H1 → va_D A (ws.set q0 (b, .inr (7, fs.set 12 (.int v)))) → va_S A H0 H1 locs1 → W p l e R s m args below meth c H1 locs1 cells slots Q (F0 m (pc + 3) ls (rest))) : W p l e R s m args below meth c H locs cells slots Q (F0 m pc ls (.int v :: .ref b :: rest)) :=
  va_put F.1 F.2.1 F.2.2.2.2.1 uw_X7 tyX7 tyX7_ok nmX7 F.2.2.2.1 hX.1 hP hD hS q0 he rfl 12 (by decide) (F.2.2.2.2.1 _ q_768) (fun _ h => h) rfl (ty := .int) (v := .int v) (by decide +kernel) rfl rfl hl hdg kk
theorem gX7_212 (F : Fx p s m args meth c RX7 cc nL ret0) (hX : Cx D cI cP s) (hP : va_P D vwCl ws H) (q0 : Nat) (he : ws[q0]? = some (b, .inr (7, fs))) {v : Value} (hv : fs[13]? = some v) (hdg : decode cc pc = .ok (.getfield 212, 3)) (kk : W p l e R s m args below meth c H locs cells slots Q (F0 m (pc + 3) ls (v :: rest))) : W p l e R s m args below meth c H locs cells slots Q (F0 m pc ls (.ref b :: rest)) :=
  va_get F.1 F.2.1 F.2.2.2.2.1 uw_X7 F.2.2.2.1 hX.1 hP q0 he rfl 13 (by decide) (F.2.2.2.2.1 _ q_769) (fun _ h => h) hv hdg kk
theorem pX7_212 (F : Fx p s m args meth c RX7 cc nL ret0) (hX : Cx D cI cP s) (hP : va_P D vwCl ws H) (hD : va_D A ws) (hS : va_S A H0 H locs) (q0 : Nat) (he : ws[q0]? = some (b, .inr (7, fs))) {v : Int32} (hl : 13 < fs.length) (hdg : decode cc pc = .ok (.putfield 212, 3)) (kk : ∀ (H1 : Heap) (locs1 : List Loc), va_P D vwCl (ws.set q0 (b, .inr (7, fs.set 13 (.int v)))) H1 → va_D A (ws.set q0 (b, .inr (7, fs.set 13 (.int v)))) → va_S A H0 H1 locs1 → W p l e R s m args below meth c H1 locs1 cells slots Q (F0 m (pc + 3) ls (rest))) : W p l e R s m args below meth c H locs cells slots Q (F0 m pc ls (.int v :: .ref b :: rest)) :=
  va_put F.1 F.2.1 F.2.2.2.2.1 uw_X7 tyX7 tyX7_ok nmX7 F.2.2.2.1 hX.1 hP hD hS q0 he rfl 13 (by decide) (F.2.2.2.2.1 _ q_769) (fun _ h => h) rfl (ty := .int) (v := .int v) (by decide +kernel) rfl rfl hl hdg kk
theorem gX7_215 (F : Fx p s m args meth c RX7 cc nL ret0) (hX : Cx D cI cP s) (hP : va_P D vwCl ws H) (q0 : Nat) (he : ws[q0]? = some (b, .inr (7, fs))) {v : Value} (hv : fs[14]? = some v) (hdg : decode cc pc = .ok (.getfield 215, 3)) (kk : W p l e R s m args below meth c H locs cells slots Q (F0 m (pc + 3) ls (v :: rest))) : W p l e R s m args below meth c H locs cells slots Q (F0 m pc ls (.ref b :: rest)) :=
  va_get F.1 F.2.1 F.2.2.2.2.1 uw_X7 F.2.2.2.1 hX.1 hP q0 he rfl 14 (by decide) (F.2.2.2.2.1 _ q_770) (fun _ h => h) hv hdg kk
theorem pX7_215 (F : Fx p s m args meth c RX7 cc nL ret0) (hX : Cx D cI cP s) (hP : va_P D vwCl ws H) (hD : va_D A ws) (hS : va_S A H0 H locs) (q0 : Nat) (he : ws[q0]? = some (b, .inr (7, fs))) {v : Int32} (hl : 14 < fs.length) (hdg : decode cc pc = .ok (.putfield 215, 3)) (kk : ∀ (H1 : Heap) (locs1 : List Loc), va_P D vwCl (ws.set q0 (b, .inr (7, fs.set 14 (.int v)))) H1 → va_D A (ws.set q0 (b, .inr (7, fs.set 14 (.int v)))) → va_S A H0 H1 locs1 → W p l e R s m args below meth c H1 locs1 cells slots Q (F0 m (pc + 3) ls (rest))) : W p l e R s m args below meth c H locs cells slots Q (F0 m pc ls (.int v :: .ref b :: rest)) :=
  va_put F.1 F.2.1 F.2.2.2.2.1 uw_X7 tyX7 tyX7_ok nmX7 F.2.2.2.1 hX.1 hP hD hS q0 he rfl 14 (by decide) (F.2.2.2.2.1 _ q_770) (fun _ h => h) rfl (ty := .int) (v := .int v) (by decide +kernel) rfl rfl hl hdg kk
theorem gX7_203 (F : Fx p s m args meth c RX7 cc nL ret0) (hX : Cx D cI cP s) (hP : va_P D vwCl ws H) (q0 : Nat) (he : ws[q0]? = some (b, .inr (7, fs))) {v : Value} (hv : fs[15]? = some v) (hdg : decode cc pc = .ok (.getfield 203, 3)) (kk : W p l e R s m args below meth c H locs cells slots Q (F0 m (pc + 3) ls (v :: rest))) : W p l e R s m args below meth c H locs cells slots Q (F0 m pc ls (.ref b :: rest)) :=
  va_get F.1 F.2.1 F.2.2.2.2.1 uw_X7 F.2.2.2.1 hX.1 hP q0 he rfl 15 (by decide) (F.2.2.2.2.1 _ q_771) (fun _ h => h) hv hdg kk
theorem pX7_203 (F : Fx p s m args meth c RX7 cc nL ret0) (hX : Cx D cI cP s) (hP : va_P D vwCl ws H) (hD : va_D A ws) (hS : va_S A H0 H locs) (q0 : Nat) (he : ws[q0]? = some (b, .inr (7, fs))) {v : Int32} (hl : 15 < fs.length) (hdg : decode cc pc = .ok (.putfield 203, 3)) (kk : ∀ (H1 : Heap) (locs1 : List Loc), va_P D vwCl (ws.set q0 (b, .inr (7, fs.set 15 (.int v)))) H1 → va_D A (ws.set q0 (b, .inr (7, fs.set 15 (.int v)))) → va_S A H0 H1 locs1 → W p l e R s m args below meth c H1 locs1 cells slots Q (F0 m (pc + 3) ls (rest))) : W p l e R s m args below meth c H locs cells slots Q (F0 m pc ls (.int v :: .ref b :: rest)) :=
  va_put F.1 F.2.1 F.2.2.2.2.1 uw_X7 tyX7 tyX7_ok nmX7 F.2.2.2.1 hX.1 hP hD hS q0 he rfl 15 (by decide) (F.2.2.2.2.1 _ q_771) (fun _ h => h) rfl (ty := .int) (v := .int v) (by decide +kernel) rfl rfl hl hdg kk
theorem gX7_169 (F : Fx p s m args meth c RX7 cc nL ret0) (hX : Cx D cI cP s) (hP : va_P D vwCl ws H) (q0 : Nat) (he : ws[q0]? = some (b, .inr (7, fs))) {v : Value} (hv : fs[16]? = some v) (hdg : decode cc pc = .ok (.getfield 169, 3)) (kk : W p l e R s m args below meth c H locs cells slots Q (F0 m (pc + 3) ls (v :: rest))) : W p l e R s m args below meth c H locs cells slots Q (F0 m pc ls (.ref b :: rest)) :=
  va_get F.1 F.2.1 F.2.2.2.2.1 uw_X7 F.2.2.2.1 hX.1 hP q0 he rfl 16 (by decide) (F.2.2.2.2.1 _ q_772) (fun _ h => h) hv hdg kk
theorem pX7_169 (F : Fx p s m args meth c RX7 cc nL ret0) (hX : Cx D cI cP s) (hP : va_P D vwCl ws H) (hD : va_D A ws) (hS : va_S A H0 H locs) (q0 : Nat) (he : ws[q0]? = some (b, .inr (7, fs))) {v : Int32} (hl : 16 < fs.length) (hdg : decode cc pc = .ok (.putfield 169, 3)) (kk : ∀ (H1 : Heap) (locs1 : List Loc), va_P D vwCl (ws.set q0 (b, .inr (7, fs.set 16 (.int v)))) H1 → va_D A (ws.set q0 (b, .inr (7, fs.set 16 (.int v)))) → va_S A H0 H1 locs1 → W p l e R s m args below meth c H1 locs1 cells slots Q (F0 m (pc + 3) ls (rest))) : W p l e R s m args below meth c H locs cells slots Q (F0 m pc ls (.int v :: .ref b :: rest)) :=
  va_put F.1 F.2.1 F.2.2.2.2.1 uw_X7 tyX7 tyX7_ok nmX7 F.2.2.2.1 hX.1 hP hD hS q0 he rfl 16 (by decide) (F.2.2.2.2.1 _ q_772) (fun _ h => h) rfl (ty := .int) (v := .int v) (by decide +kernel) rfl rfl hl hdg kk
theorem gX7_34 (F : Fx p s m args meth c RX7 cc nL ret0) (hX : Cx D cI cP s) (hP : va_P D vwCl ws H) (q0 : Nat) (he : ws[q0]? = some (b, .inr (7, fs))) {v : Value} (hv : fs[17]? = some v) (hdg : decode cc pc = .ok (.getfield 34, 3)) (kk : W p l e R s m args below meth c H locs cells slots Q (F0 m (pc + 3) ls (v :: rest))) : W p l e R s m args below meth c H locs cells slots Q (F0 m pc ls (.ref b :: rest)) :=
  va_get F.1 F.2.1 F.2.2.2.2.1 uw_X7 F.2.2.2.1 hX.1 hP q0 he rfl 17 (by decide) (F.2.2.2.2.1 _ q_773) (fun _ h => h) hv hdg kk
end FLD
end
section
/-! how each method is reached, by class and place in the pool -/
theorem wdX2_7 : WdS RX2 7 yJ9_max_7cf53 cJ9_max_7cf53 2 (some .int) 2 := ⟨q_132, q_133, q_103, q_134, by decide +kernel, by decide +kernel, by decide +kernel⟩
theorem wdL_13 : WdV RL 13 yX6_puppet cX6_puppet 3 (some .int) 2 := ⟨q_335, q_336, q_337, q_100, q_338, by decide +kernel, by decide +kernel, by decide +kernel⟩
theorem wdX6_37 : WdN RX6 RX6 37 yX1_copyFrom cX1_copyFrom 2 none 1 := ⟨q_339, q_341, q_0, q_101, q_342, by decide +kernel, by decide +kernel, by decide +kernel⟩
theorem wdX1_53 : WdN RX1 RX6 53 yX2_copyFrom cX2_copyFrom 2 none 1 := ⟨q_343, q_345, q_1, q_102, q_346, by decide +kernel, by decide +kernel, by decide +kernel⟩
theorem wdX2_19 : WdS RX2 19 yJ9_min_7cf53 cJ9_min_7cf53 2 (some .int) 2 := ⟨q_347, q_348, q_103, q_349, by decide +kernel, by decide +kernel, by decide +kernel⟩
theorem wdX1_57 : WdN RX1 RX6 57 yX3_copyFrom cX3_copyFrom 2 none 1 := ⟨q_353, q_355, q_2, q_104, q_356, by decide +kernel, by decide +kernel, by decide +kernel⟩
theorem wdX3_29 : WdN RX3 RX6 29 yX2_copyFrom cX2_copyFrom 2 none 1 := ⟨q_357, q_345, q_1, q_102, q_346, by decide +kernel, by decide +kernel, by decide +kernel⟩
theorem wdX1_60 : WdN RX1 RX6 60 yX0_copyFrom cX0_copyFrom 2 none 1 := ⟨q_358, q_360, q_3, q_105, q_361, by decide +kernel, by decide +kernel, by decide +kernel⟩
theorem wdX0_20 : WdN RX0 RX6 20 yX2_copyFrom cX2_copyFrom 2 none 1 := ⟨q_362, q_345, q_1, q_102, q_346, by decide +kernel, by decide +kernel, by decide +kernel⟩
theorem wdX6_41 : WdN RX6 RX6 41 yX1_addPuppet cX1_addPuppet 3 (some .int) 2 := ⟨q_363, q_365, q_4, q_101, q_366, by decide +kernel, by decide +kernel, by decide +kernel⟩
theorem wdX1_75 : WdSN RX1 RX6 75 yX6_isIn cX6_isIn 3 (some .boolean) 3 := ⟨q_367, q_368, q_100, q_369, by decide +kernel, by decide +kernel, by decide +kernel⟩
theorem wdX1_81 : WdN RX1 RX6 81 yX2_put cX2_put 3 none 2 := ⟨q_372, q_374, q_5, q_102, q_375, by decide +kernel, by decide +kernel, by decide +kernel⟩
theorem wdX1_85 : WdV RX1 85 yX1_tellGroups cX1_tellGroups 2 none 0 := ⟨q_376, q_378, q_6, q_101, q_379, by decide +kernel, by decide +kernel, by decide +kernel⟩
theorem wdX1_142 : WdV RX1 142 yX1_joinBy cX1_joinBy 8 none 1 := ⟨q_380, q_382, q_7, q_101, q_383, by decide +kernel, by decide +kernel, by decide +kernel⟩
theorem wdX1_128 : WdN RX1 RX6 128 yX2_get cX2_get 2 (some .int) 1 := ⟨q_384, q_386, q_8, q_102, q_387, by decide +kernel, by decide +kernel, by decide +kernel⟩
theorem wdX1_151 : WdS RX1 151 yJ9_min_7cf53 cJ9_min_7cf53 2 (some .int) 2 := ⟨q_388, q_348, q_103, q_349, by decide +kernel, by decide +kernel, by decide +kernel⟩
theorem wdX1_156 : WdS RX1 156 yJ9_max_7cf53 cJ9_max_7cf53 2 (some .int) 2 := ⟨q_389, q_133, q_103, q_134, by decide +kernel, by decide +kernel, by decide +kernel⟩
theorem wdX1_88 : WdV RX1 88 yX1_tellVotes cX1_tellVotes 4 none 0 := ⟨q_390, q_392, q_9, q_101, q_393, by decide +kernel, by decide +kernel, by decide +kernel⟩
theorem wdX1_162 : WdV RX1 162 yX1_pulledVote cX1_pulledVote 4 (some .int) 1 := ⟨q_394, q_396, q_10, q_101, q_397, by decide +kernel, by decide +kernel, by decide +kernel⟩
theorem wdX1_165 : WdV RX1 165 yX1_leadingVote cX1_leadingVote 5 (some .int) 1 := ⟨q_398, q_400, q_11, q_101, q_401, by decide +kernel, by decide +kernel, by decide +kernel⟩
theorem wdX6_45 : WdV RX6 45 yX6_settle cX6_settle 2 (some .int) 1 := ⟨q_402, q_404, q_12, q_100, q_405, by decide +kernel, by decide +kernel, by decide +kernel⟩
theorem wdX6_279 : WdS RX6 279 yX6_isError cX6_isError 1 (some .boolean) 1 := ⟨q_406, q_407, q_100, q_408, by decide +kernel, by decide +kernel, by decide +kernel⟩
theorem wdX6_288 : WdV RX6 288 yX6_remember cX6_remember 2 none 0 := ⟨q_409, q_411, q_13, q_100, q_412, by decide +kernel, by decide +kernel, by decide +kernel⟩
theorem wdX6_243 : WdV RX6 243 yX6_pastState cX6_pastState 3 (some (.object "StringVotes$Parliament")) 1 := ⟨q_413, q_415, q_14, q_100, q_416, by decide +kernel, by decide +kernel, by decide +kernel⟩
theorem wdL_18 : WdV RL 18 yX6_tie cX6_tie 5 (some .int) 4 := ⟨q_417, q_418, q_419, q_100, q_420, by decide +kernel, by decide +kernel, by decide +kernel⟩
theorem wdX6_49 : WdN RX6 RX6 49 yX1_addString cX1_addString 6 (some .int) 4 := ⟨q_421, q_423, q_15, q_101, q_424, by decide +kernel, by decide +kernel, by decide +kernel⟩
theorem wdX1_91 : WdV RX1 91 yX1_arePair cX1_arePair 3 (some .boolean) 2 := ⟨q_425, q_427, q_16, q_101, q_428, by decide +kernel, by decide +kernel, by decide +kernel⟩
theorem wdX1_118 : WdV RX1 118 yX1_hasPuppet cX1_hasPuppet 2 (some .boolean) 1 := ⟨q_429, q_431, q_17, q_101, q_432, by decide +kernel, by decide +kernel, by decide +kernel⟩
theorem wdX1_95 : WdV RX1 95 yX1_reasonAgainstString cX1_reasonAgainstString 7 (some .int) 3 := ⟨q_433, q_435, q_18, q_101, q_436, by decide +kernel, by decide +kernel, by decide +kernel⟩
theorem wdX1_168 : WdN RX1 RX6 168 yX3_areTied cX3_areTied 6 (some .boolean) 2 := ⟨q_437, q_439, q_19, q_104, q_440, by decide +kernel, by decide +kernel, by decide +kernel⟩
theorem wdX3_40 : WdS RX3 40 yJ9_min_7cf53 cJ9_min_7cf53 2 (some .int) 2 := ⟨q_441, q_348, q_103, q_349, by decide +kernel, by decide +kernel, by decide +kernel⟩
theorem wdX3_50 : WdS RX3 50 yJ9_max_7cf53 cJ9_max_7cf53 2 (some .int) 2 := ⟨q_442, q_133, q_103, q_134, by decide +kernel, by decide +kernel, by decide +kernel⟩
theorem wdX3_56 : WdN RX3 RX6 56 yX2_get cX2_get 2 (some .int) 1 := ⟨q_443, q_386, q_8, q_102, q_387, by decide +kernel, by decide +kernel, by decide +kernel⟩
theorem wdX1_171 : WdV RX1 171 yX1_hangTogether cX1_hangTogether 3 (some .boolean) 2 := ⟨q_444, q_446, q_20, q_101, q_447, by decide +kernel, by decide +kernel, by decide +kernel⟩
theorem wdX1_103 : WdN RX1 RX6 103 yX3_append cX3_append 5 (some .int) 4 := ⟨q_449, q_451, q_21, q_104, q_452, by decide +kernel, by decide +kernel, by decide +kernel⟩
theorem wdX3_46 : WdN RX3 RX6 46 yX2_put cX2_put 3 none 2 := ⟨q_453, q_374, q_5, q_102, q_375, by decide +kernel, by decide +kernel, by decide +kernel⟩
theorem wdL_23 : WdV RL 23 yX6_cut cX6_cut 2 (some .int) 1 := ⟨q_454, q_455, q_456, q_100, q_457, by decide +kernel, by decide +kernel, by decide +kernel⟩
theorem wdX6_53 : WdN RX6 RX6 53 yX1_cutString cX1_cutString 2 (some .int) 1 := ⟨q_458, q_460, q_22, q_101, q_461, by decide +kernel, by decide +kernel, by decide +kernel⟩
theorem wdX1_107 : WdN RX1 RX6 107 yX3_has cX3_has 2 (some .boolean) 1 := ⟨q_462, q_464, q_23, q_104, q_465, by decide +kernel, by decide +kernel, by decide +kernel⟩
theorem wdX1_111 : WdN RX1 RX6 111 yX3_removeAt cX3_removeAt 2 none 1 := ⟨q_466, q_468, q_24, q_104, q_469, by decide +kernel, by decide +kernel, by decide +kernel⟩
theorem wdX3_53 : WdN RX3 RX6 53 yX2_removeAt cX2_removeAt 3 none 1 := ⟨q_470, q_472, q_25, q_102, q_473, by decide +kernel, by decide +kernel, by decide +kernel⟩
theorem wdL_28 : WdV RL 28 yX6_cutDeal cX6_cutDeal 2 (some .int) 1 := ⟨q_474, q_475, q_476, q_100, q_477, by decide +kernel, by decide +kernel, by decide +kernel⟩
theorem wdX6_56 : WdN RX6 RX6 56 yX1_cutStringsOf cX1_cutStringsOf 3 (some .int) 1 := ⟨q_478, q_480, q_26, q_101, q_481, by decide +kernel, by decide +kernel, by decide +kernel⟩
theorem wdX1_114 : WdN RX1 RX6 114 yX3_removeAllOf cX3_removeAllOf 4 (some .int) 1 := ⟨q_482, q_484, q_27, q_104, q_485, by decide +kernel, by decide +kernel, by decide +kernel⟩
theorem wdX3_60 : WdV RX3 60 yX3_removeAt cX3_removeAt 2 none 1 := ⟨q_486, q_468, q_24, q_104, q_469, by decide +kernel, by decide +kernel, by decide +kernel⟩
theorem wdL_32 : WdV RL 32 yX6_pull cX6_pull 3 (some .int) 2 := ⟨q_487, q_488, q_489, q_100, q_490, by decide +kernel, by decide +kernel, by decide +kernel⟩
theorem wdX6_59 : WdN RX6 RX6 59 yX1_pullTo cX1_pullTo 3 (some .int) 2 := ⟨q_491, q_493, q_28, q_101, q_494, by decide +kernel, by decide +kernel, by decide +kernel⟩
theorem wdX1_121 : WdV RX1 121 yX1_reasonAgainstPull cX1_reasonAgainstPull 6 (some .int) 2 := ⟨q_495, q_497, q_29, q_101, q_498, by decide +kernel, by decide +kernel, by decide +kernel⟩
theorem wdX1_125 : WdV RX1 125 yX1_isPulled cX1_isPulled 2 (some .boolean) 1 := ⟨q_499, q_501, q_30, q_101, q_502, by decide +kernel, by decide +kernel, by decide +kernel⟩
theorem wdL_36 : WdV RL 36 yX6_release cX6_release 2 (some .int) 1 := ⟨q_503, q_504, q_505, q_100, q_506, by decide +kernel, by decide +kernel, by decide +kernel⟩
theorem wdX6_62 : WdN RX6 RX6 62 yX1_letGo cX1_letGo 3 (some .int) 1 := ⟨q_507, q_509, q_31, q_101, q_510, by decide +kernel, by decide +kernel, by decide +kernel⟩
theorem wdL_40 : WdV RL 40 yX6_session cX6_session 1 (some .int) 0 := ⟨q_511, q_512, q_513, q_100, q_514, by decide +kernel, by decide +kernel, by decide +kernel⟩
theorem wdX6_65 : WdN RX6 RX6 65 yX1_holdSession cX1_holdSession 3 (some .int) 0 := ⟨q_515, q_517, q_32, q_101, q_518, by decide +kernel, by decide +kernel, by decide +kernel⟩
theorem wdX1_134 : WdV RX1 134 yX1_wouldPass cX1_wouldPass 2 (some .int) 0 := ⟨q_519, q_521, q_33, q_101, q_522, by decide +kernel, by decide +kernel, by decide +kernel⟩
theorem wdX1_138 : WdN RX1 RX6 138 yX0_enter cX0_enter 6 none 4 := ⟨q_523, q_525, q_34, q_105, q_526, by decide +kernel, by decide +kernel, by decide +kernel⟩
theorem wdX0_37 : WdN RX0 RX6 37 yX2_get cX2_get 2 (some .int) 1 := ⟨q_527, q_386, q_8, q_102, q_387, by decide +kernel, by decide +kernel, by decide +kernel⟩
theorem wdX0_41 : WdN RX0 RX6 41 yX2_put cX2_put 3 none 2 := ⟨q_528, q_374, q_5, q_102, q_375, by decide +kernel, by decide +kernel, by decide +kernel⟩
theorem wdL_45 : WdV RL 45 yX6_set cX6_set 3 (some .int) 2 := ⟨q_529, q_530, q_531, q_100, q_532, by decide +kernel, by decide +kernel, by decide +kernel⟩
theorem wdX6_70 : WdN RX6 RX6 70 yX1_bindPulls cX1_bindPulls 3 (some .int) 1 := ⟨q_534, q_536, q_35, q_101, q_537, by decide +kernel, by decide +kernel, by decide +kernel⟩
theorem wdL_49 : WdV RL 49 yX6_puppetOf cX6_puppetOf 4 (some .int) 2 := ⟨q_538, q_539, q_540, q_100, q_541, by decide +kernel, by decide +kernel, by decide +kernel⟩
theorem wdX6_73 : WdN RX6 RX6 73 yX1_hasPuppet cX1_hasPuppet 2 (some .boolean) 1 := ⟨q_542, q_431, q_17, q_101, q_432, by decide +kernel, by decide +kernel, by decide +kernel⟩
theorem wdX6_81 : WdN RX6 RX6 81 yX2_get cX2_get 2 (some .int) 1 := ⟨q_543, q_386, q_8, q_102, q_387, by decide +kernel, by decide +kernel, by decide +kernel⟩
theorem wdX6_92 : WdN RX6 RX6 92 yX1_isPulled cX1_isPulled 2 (some .boolean) 1 := ⟨q_544, q_501, q_30, q_101, q_502, by decide +kernel, by decide +kernel, by decide +kernel⟩
theorem wdX6_109 : WdN RX6 RX6 109 yX3_howManyAt cX3_howManyAt 4 (some .int) 1 := ⟨q_546, q_548, q_36, q_104, q_549, by decide +kernel, by decide +kernel, by decide +kernel⟩
theorem wdX6_114 : WdN RX6 RX6 114 yX1_membersOf cX1_membersOf 4 (some .int) 1 := ⟨q_550, q_552, q_37, q_101, q_553, by decide +kernel, by decide +kernel, by decide +kernel⟩
theorem wdX6_117 : WdN RX6 RX6 117 yX1_seatsIn cX1_seatsIn 4 (some .int) 1 := ⟨q_554, q_556, q_38, q_101, q_557, by decide +kernel, by decide +kernel, by decide +kernel⟩
theorem wdX1_174 : WdSN RX1 RX6 174 yX6_isMember cX6_isMember 2 (some .boolean) 2 := ⟨q_558, q_559, q_100, q_560, by decide +kernel, by decide +kernel, by decide +kernel⟩
theorem wdL_53 : WdV RL 53 yX6_stringOf cX6_stringOf 3 (some .int) 2 := ⟨q_561, q_562, q_563, q_100, q_564, by decide +kernel, by decide +kernel, by decide +kernel⟩
theorem wdX6_120 : WdN RX6 RX6 120 yX3_has cX3_has 2 (some .boolean) 1 := ⟨q_565, q_464, q_23, q_104, q_465, by decide +kernel, by decide +kernel, by decide +kernel⟩
theorem wdX6_135 : WdV RX6 135 yX6_hangTogetherWithout cX6_hangTogetherWithout 2 (some .boolean) 1 := ⟨q_566, q_568, q_39, q_100, q_569, by decide +kernel, by decide +kernel, by decide +kernel⟩
theorem wdX6_138 : WdN RX6 RX6 138 yX1_hangTogether cX1_hangTogether 3 (some .boolean) 2 := ⟨q_570, q_446, q_20, q_101, q_447, by decide +kernel, by decide +kernel, by decide +kernel⟩
theorem wdL_57 : WdV RL 57 yX6_between cX6_between 5 (some .int) 2 := ⟨q_571, q_572, q_573, q_100, q_574, by decide +kernel, by decide +kernel, by decide +kernel⟩
theorem wdX6_142 : WdS RX6 142 yX6_isMember cX6_isMember 2 (some .boolean) 2 := ⟨q_575, q_559, q_100, q_560, by decide +kernel, by decide +kernel, by decide +kernel⟩
theorem wdX6_145 : WdN RX6 RX6 145 yX3_oneStringFurther cX3_oneStringFurther 5 (some .int) 1 := ⟨q_576, q_578, q_40, q_104, q_579, by decide +kernel, by decide +kernel, by decide +kernel⟩
theorem wdL_61 : WdV RL 61 yX6_book cX6_book 3 (some .int) 2 := ⟨q_580, q_581, q_582, q_100, q_583, by decide +kernel, by decide +kernel, by decide +kernel⟩
theorem wdX6_148 : WdS RX6 148 yX6_isIn cX6_isIn 3 (some .boolean) 3 := ⟨q_584, q_368, q_100, q_369, by decide +kernel, by decide +kernel, by decide +kernel⟩
theorem wdX6_156 : WdN RX6 RX6 156 yX0_kept cX0_kept 1 (some .int) 0 := ⟨q_585, q_587, q_41, q_105, q_588, by decide +kernel, by decide +kernel, by decide +kernel⟩
theorem wdX0_31 : WdS RX0 31 yJ9_min_7cf53 cJ9_min_7cf53 2 (some .int) 2 := ⟨q_589, q_348, q_103, q_349, by decide +kernel, by decide +kernel, by decide +kernel⟩
theorem wdX6_161 : WdN RX6 RX6 161 yX0_entry cX0_entry 3 (some .int) 2 := ⟨q_590, q_592, q_42, q_105, q_593, by decide +kernel, by decide +kernel, by decide +kernel⟩
theorem wdL_65 : WdV RL 65 yX6_whyTie cX6_whyTie 4 (some .int) 3 := ⟨q_594, q_595, q_596, q_100, q_597, by decide +kernel, by decide +kernel, by decide +kernel⟩
theorem wdX6_164 : WdN RX6 RX6 164 yX1_arePair cX1_arePair 3 (some .boolean) 2 := ⟨q_598, q_427, q_16, q_101, q_428, by decide +kernel, by decide +kernel, by decide +kernel⟩
theorem wdX6_167 : WdN RX6 RX6 167 yX1_reasonAgainstString cX1_reasonAgainstString 7 (some .int) 3 := ⟨q_599, q_435, q_18, q_101, q_436, by decide +kernel, by decide +kernel, by decide +kernel⟩
theorem wdL_70 : WdV RL 70 yX6_whyPull cX6_whyPull 3 (some .int) 2 := ⟨q_600, q_601, q_602, q_100, q_603, by decide +kernel, by decide +kernel, by decide +kernel⟩
theorem wdX6_171 : WdN RX6 RX6 171 yX1_reasonAgainstPull cX1_reasonAgainstPull 6 (some .int) 2 := ⟨q_604, q_497, q_29, q_101, q_498, by decide +kernel, by decide +kernel, by decide +kernel⟩
theorem wdL_74 : WdV RL 74 yX6_bestPull cX6_bestPull 6 (some .int) 1 := ⟨q_605, q_606, q_607, q_100, q_608, by decide +kernel, by decide +kernel, by decide +kernel⟩
theorem wdX6_181 : WdV RX6 181 yX6_seatsIfPulled cX6_seatsIfPulled 3 (some .int) 2 := ⟨q_609, q_611, q_43, q_100, q_612, by decide +kernel, by decide +kernel, by decide +kernel⟩
theorem wdX6_184 : WdS RX6 184 yJ9_max_7cf53 cJ9_max_7cf53 2 (some .int) 2 := ⟨q_613, q_133, q_103, q_134, by decide +kernel, by decide +kernel, by decide +kernel⟩
theorem wdL_78 : WdV RL 78 yX6_fewest cX6_fewest 3 (some .int) 1 := ⟨q_614, q_615, q_616, q_100, q_617, by decide +kernel, by decide +kernel, by decide +kernel⟩
theorem wdX6_189 : WdN RX6 RX6 189 yX5_collect cX5_collect 6 none 1 := ⟨q_618, q_620, q_44, q_106, q_621, by decide +kernel, by decide +kernel, by decide +kernel⟩
theorem wdX5_38 : WdN RX5 RX6 38 yX1_membersOf cX1_membersOf 4 (some .int) 1 := ⟨q_622, q_552, q_37, q_101, q_553, by decide +kernel, by decide +kernel, by decide +kernel⟩
theorem wdX5_42 : WdN RX5 RX6 42 yX1_yesVoters cX1_yesVoters 3 (some .int) 0 := ⟨q_623, q_625, q_45, q_101, q_626, by decide +kernel, by decide +kernel, by decide +kernel⟩
theorem wdX5_46 : WdN RX5 RX6 46 yX1_seatsIn cX1_seatsIn 4 (some .int) 1 := ⟨q_627, q_556, q_38, q_101, q_557, by decide +kernel, by decide +kernel, by decide +kernel⟩
theorem wdX5_49 : WdN RX5 RX6 49 yX2_put cX2_put 3 none 2 := ⟨q_628, q_374, q_5, q_102, q_375, by decide +kernel, by decide +kernel, by decide +kernel⟩
theorem wdX6_192 : WdN RX6 RX6 192 yX5_fewestByTheBest cX5_fewestByTheBest 5 (some .int) 0 := ⟨q_629, q_631, q_46, q_106, q_632, by decide +kernel, by decide +kernel, by decide +kernel⟩
theorem wdX5_53 : WdV RX5 53 yX5_bestBut cX5_bestBut 4 (some .int) 1 := ⟨q_633, q_635, q_47, q_106, q_636, by decide +kernel, by decide +kernel, by decide +kernel⟩
theorem wdX5_59 : WdSN RX5 RX6 59 yX6_isMember cX6_isMember 2 (some .boolean) 2 := ⟨q_637, q_559, q_100, q_560, by decide +kernel, by decide +kernel, by decide +kernel⟩
theorem wdX5_56 : WdN RX5 RX6 56 yX2_get cX2_get 2 (some .int) 1 := ⟨q_638, q_386, q_8, q_102, q_387, by decide +kernel, by decide +kernel, by decide +kernel⟩
theorem wdX6_195 : WdN RX6 RX6 195 yX5_fewestOfAllSets cX5_fewestOfAllSets 5 (some .int) 0 := ⟨q_639, q_641, q_48, q_106, q_642, by decide +kernel, by decide +kernel, by decide +kernel⟩
theorem wdX5_63 : WdV RX5 63 yX5_stepTo cX5_stepTo 4 (some .int) 1 := ⟨q_643, q_645, q_49, q_106, q_646, by decide +kernel, by decide +kernel, by decide +kernel⟩
theorem wdX5_66 : WdS RX5 66 yJ6_bitCount_0f7a4 cJ6_bitCount_0f7a4 1 (some .int) 1 := ⟨q_647, q_648, q_110, q_649, by decide +kernel, by decide +kernel, by decide +kernel⟩
theorem wdL_82 : WdV RL 82 yX6_ifCut cX6_ifCut 3 (some .int) 2 := ⟨q_653, q_654, q_655, q_100, q_656, by decide +kernel, by decide +kernel, by decide +kernel⟩
theorem wdX6_198 : WdN RX6 RX6 198 yX1_groupsByJoining cX1_groupsByJoining 3 (some .int) 0 := ⟨q_657, q_659, q_50, q_101, q_660, by decide +kernel, by decide +kernel, by decide +kernel⟩
theorem wdL_86 : WdV RL 86 yX6_share cX6_share 2 (some .int) 0 := ⟨q_661, q_662, q_663, q_100, q_664, by decide +kernel, by decide +kernel, by decide +kernel⟩
theorem wdX6_204 : WdS RX6 204 yX6_bitsOf cX6_bitsOf 4 (some .int) 1 := ⟨q_665, q_666, q_100, q_667, by decide +kernel, by decide +kernel, by decide +kernel⟩
theorem wdL_90 : WdV RL 90 yX6_count cX6_count 2 (some .int) 1 := ⟨q_669, q_670, q_671, q_100, q_672, by decide +kernel, by decide +kernel, by decide +kernel⟩
theorem wdX6_212 : WdN RX6 RX6 212 yX1_groupsByWalking cX1_groupsByWalking 4 (some .int) 0 := ⟨q_673, q_675, q_51, q_101, q_676, by decide +kernel, by decide +kernel, by decide +kernel⟩
theorem wdX1_177 : WdV RX1 177 yX1_walkFrom cX1_walkFrom 4 (some .int) 1 := ⟨q_677, q_679, q_52, q_101, q_680, by decide +kernel, by decide +kernel, by decide +kernel⟩
theorem wdX1_180 : WdN RX1 RX6 180 yX3_oneStringFurther cX3_oneStringFurther 5 (some .int) 1 := ⟨q_681, q_578, q_40, q_104, q_579, by decide +kernel, by decide +kernel, by decide +kernel⟩
theorem wdX6_215 : WdN RX6 RX6 215 yX1_wouldPass cX1_wouldPass 2 (some .int) 0 := ⟨q_682, q_521, q_33, q_101, q_522, by decide +kernel, by decide +kernel, by decide +kernel⟩
theorem wdX6_221 : WdN RX6 RX6 221 yX1_pulledPuppets cX1_pulledPuppets 3 (some .int) 0 := ⟨q_683, q_685, q_53, q_101, q_686, by decide +kernel, by decide +kernel, by decide +kernel⟩
theorem wdL_94 : WdV RL 94 yX6_undo cX6_undo 2 (some .int) 0 := ⟨q_687, q_688, q_689, q_100, q_690, by decide +kernel, by decide +kernel, by decide +kernel⟩
theorem wdL_98 : WdV RL 98 yX6_type cX6_type 2 (some .int) 1 := ⟨q_692, q_693, q_694, q_100, q_695, by decide +kernel, by decide +kernel, by decide +kernel⟩
theorem wdX6_247 : WdN RX6 RX6 247 yX4_append cX4_append 2 (some .boolean) 1 := ⟨q_696, q_698, q_54, q_107, q_699, by decide +kernel, by decide +kernel, by decide +kernel⟩
theorem wdX4_27 : WdN RX4 RX6 27 yX2_put cX2_put 3 none 2 := ⟨q_700, q_374, q_5, q_102, q_375, by decide +kernel, by decide +kernel, by decide +kernel⟩
theorem wdL_102 : WdV RL 102 yX6_clearText cX6_clearText 2 (some .int) 0 := ⟨q_702, q_703, q_704, q_100, q_705, by decide +kernel, by decide +kernel, by decide +kernel⟩
theorem wdL_106 : WdV RL 106 yX6_fault cX6_fault 2 (some .int) 1 := ⟨q_706, q_707, q_708, q_100, q_709, by decide +kernel, by decide +kernel, by decide +kernel⟩
theorem wdX6_251 : WdV RX6 251 yX6_tryOrders cX6_tryOrders 4 (some .boolean) 0 := ⟨q_710, q_712, q_55, q_100, q_713, by decide +kernel, by decide +kernel, by decide +kernel⟩
theorem wdX6_267 : WdN RX6 RX6 267 yX4_readOrder cX4_readOrder 4 (some .boolean) 1 := ⟨q_714, q_716, q_56, q_107, q_717, by decide +kernel, by decide +kernel, by decide +kernel⟩
theorem wdX4_38 : WdV RX4 38 yX4_current cX4_current 1 (some .int) 0 := ⟨q_718, q_720, q_57, q_107, q_721, by decide +kernel, by decide +kernel, by decide +kernel⟩
theorem wdX4_34 : WdN RX4 RX6 34 yX2_get cX2_get 2 (some .int) 1 := ⟨q_722, q_386, q_8, q_102, q_387, by decide +kernel, by decide +kernel, by decide +kernel⟩
theorem wdX4_45 : WdS RX4 45 yX4_numbersBehind cX4_numbersBehind 1 (some .int) 1 := ⟨q_723, q_724, q_107, q_725, by decide +kernel, by decide +kernel, by decide +kernel⟩
theorem wdX4_48 : WdV RX4 48 yX4_skip cX4_skip 2 (some .boolean) 1 := ⟨q_726, q_728, q_58, q_107, q_729, by decide +kernel, by decide +kernel, by decide +kernel⟩
theorem wdX4_52 : WdV RX4 52 yX4_readNumber cX4_readNumber 3 (some .boolean) 1 := ⟨q_730, q_732, q_59, q_107, q_733, by decide +kernel, by decide +kernel, by decide +kernel⟩
theorem wdX4_55 : WdS RX4 55 yX4_isDigit cX4_isDigit 1 (some .boolean) 1 := ⟨q_734, q_735, q_107, q_736, by decide +kernel, by decide +kernel, by decide +kernel⟩
theorem wdX4_58 : WdSN RX4 RX6 58 yX6_isIn cX6_isIn 3 (some .boolean) 3 := ⟨q_737, q_368, q_100, q_369, by decide +kernel, by decide +kernel, by decide +kernel⟩
theorem wdX6_273 : WdV RX6 273 yX6_foundFault cX6_foundFault 4 (some .boolean) 3 := ⟨q_738, q_740, q_60, q_100, q_741, by decide +kernel, by decide +kernel, by decide +kernel⟩
theorem wdX6_276 : WdV RX6 276 yX6_obey cX6_obey 4 (some .int) 0 := ⟨q_742, q_744, q_61, q_100, q_745, by decide +kernel, by decide +kernel, by decide +kernel⟩
theorem wdL_110 : WdV RL 110 yX6_play cX6_play 1 (some .int) 0 := ⟨q_746, q_747, q_748, q_100, q_749, by decide +kernel, by decide +kernel, by decide +kernel⟩
theorem wdL_69 : WdV RL 69 yX7_whyTie cX7_whyTie 4 (some .int) 3 := ⟨q_811, q_812, q_813, q_108, q_814, by decide +kernel, by decide +kernel, by decide +kernel⟩
theorem wdX7_88 : WdV RX7 88 yX7_isPair cX7_isPair 3 (some .boolean) 2 := ⟨q_815, q_817, q_62, q_108, q_818, by decide +kernel, by decide +kernel, by decide +kernel⟩
theorem wdX7_49 : WdV RX7 49 yX7_isPuppet cX7_isPuppet 2 (some .boolean) 1 := ⟨q_819, q_821, q_63, q_108, q_822, by decide +kernel, by decide +kernel, by decide +kernel⟩
theorem wdX7_45 : WdS RX7 45 yX7_in cX7_in 3 (some .boolean) 3 := ⟨q_823, q_824, q_108, q_825, by decide +kernel, by decide +kernel, by decide +kernel⟩
theorem wdX7_92 : WdV RX7 92 yX7_refused cX7_refused 6 (some .int) 3 := ⟨q_826, q_828, q_64, q_108, q_829, by decide +kernel, by decide +kernel, by decide +kernel⟩
theorem wdX7_85 : WdV RX7 85 yX7_stringOfBoth cX7_stringOfBoth 5 (some .int) 2 := ⟨q_830, q_832, q_65, q_108, q_833, by decide +kernel, by decide +kernel, by decide +kernel⟩
theorem wdX7_53 : WdV RX7 53 yX7_tied cX7_tied 3 (some .int) 2 := ⟨q_834, q_836, q_66, q_108, q_837, by decide +kernel, by decide +kernel, by decide +kernel⟩
theorem wdX7_71 : WdV RX7 71 yX7_looks cX7_looks 4 none 1 := ⟨q_839, q_841, q_67, q_108, q_842, by decide +kernel, by decide +kernel, by decide +kernel⟩
theorem wdX7_57 : WdV RX7 57 yX7_isJoined cX7_isJoined 6 (some .boolean) 3 := ⟨q_843, q_845, q_68, q_108, q_846, by decide +kernel, by decide +kernel, by decide +kernel⟩
theorem wdX7_64 : WdV RX7 64 yX7_pulled cX7_pulled 5 (some .int) 2 := ⟨q_847, q_849, q_69, q_108, q_850, by decide +kernel, by decide +kernel, by decide +kernel⟩
theorem wdX7_61 : WdV RX7 61 yX7_of cX7_of 3 (some .int) 2 := ⟨q_851, q_853, q_70, q_108, q_854, by decide +kernel, by decide +kernel, by decide +kernel⟩
theorem wdL_17 : WdV RL 17 yX7_puppet cX7_puppet 4 (some .int) 2 := ⟨q_856, q_857, q_858, q_108, q_859, by decide +kernel, by decide +kernel, by decide +kernel⟩
theorem wdX7_98 : WdV RX7 98 yX7_changes cX7_changes 2 none 0 := ⟨q_861, q_863, q_71, q_108, q_864, by decide +kernel, by decide +kernel, by decide +kernel⟩
theorem wdL_22 : WdV RL 22 yX7_tie cX7_tie 6 (some .int) 4 := ⟨q_865, q_866, q_867, q_108, q_868, by decide +kernel, by decide +kernel, by decide +kernel⟩
theorem wdL_27 : WdV RL 27 yX7_cut cX7_cut 2 (some .int) 1 := ⟨q_870, q_871, q_872, q_108, q_873, by decide +kernel, by decide +kernel, by decide +kernel⟩
theorem wdX7_102 : WdV RX7 102 yX7_isString cX7_isString 2 (some .boolean) 1 := ⟨q_874, q_876, q_72, q_108, q_877, by decide +kernel, by decide +kernel, by decide +kernel⟩
theorem wdX7_105 : WdV RX7 105 yX7_cuts cX7_cuts 3 none 1 := ⟨q_878, q_880, q_73, q_108, q_881, by decide +kernel, by decide +kernel, by decide +kernel⟩
theorem wdL_31 : WdV RL 31 yX7_cutDeal cX7_cutDeal 4 (some .int) 1 := ⟨q_882, q_883, q_884, q_108, q_885, by decide +kernel, by decide +kernel, by decide +kernel⟩
theorem wdX7_108 : WdV RX7 108 yX7_ofDeal cX7_ofDeal 4 (some .int) 1 := ⟨q_886, q_888, q_74, q_108, q_889, by decide +kernel, by decide +kernel, by decide +kernel⟩
theorem wdL_73 : WdV RL 73 yX7_whyPull cX7_whyPull 3 (some .int) 2 := ⟨q_890, q_891, q_892, q_108, q_893, by decide +kernel, by decide +kernel, by decide +kernel⟩
theorem wdX7_114 : WdV RX7 114 yX7_barred cX7_barred 4 (some .int) 2 := ⟨q_894, q_896, q_75, q_108, q_897, by decide +kernel, by decide +kernel, by decide +kernel⟩
theorem wdX7_111 : WdV RX7 111 yX7_manyPulled cX7_manyPulled 4 (some .int) 1 := ⟨q_898, q_900, q_76, q_108, q_901, by decide +kernel, by decide +kernel, by decide +kernel⟩
theorem wdL_35 : WdV RL 35 yX7_pull cX7_pull 3 (some .int) 2 := ⟨q_902, q_903, q_904, q_108, q_905, by decide +kernel, by decide +kernel, by decide +kernel⟩
theorem wdX7_79 : WdV RX7 79 yX7_yesNow cX7_yesNow 1 (some .int) 0 := ⟨q_906, q_908, q_77, q_108, q_909, by decide +kernel, by decide +kernel, by decide +kernel⟩
theorem wdX7_75 : WdV RX7 75 yX7_votes cX7_votes 4 (some .int) 0 := ⟨q_910, q_912, q_78, q_108, q_913, by decide +kernel, by decide +kernel, by decide +kernel⟩
theorem wdX7_67 : WdV RX7 67 yX7_byLeanings cX7_byLeanings 6 (some .int) 1 := ⟨q_914, q_916, q_79, q_108, q_917, by decide +kernel, by decide +kernel, by decide +kernel⟩
theorem wdL_39 : WdV RL 39 yX7_release cX7_release 3 (some .int) 1 := ⟨q_918, q_919, q_920, q_108, q_921, by decide +kernel, by decide +kernel, by decide +kernel⟩
theorem wdL_44 : WdV RL 44 yX7_session cX7_session 4 (some .int) 0 := ⟨q_922, q_923, q_924, q_108, q_925, by decide +kernel, by decide +kernel, by decide +kernel⟩
theorem wdX7_117 : WdV RX7 117 yX7_isPassed cX7_isPassed 3 (some .boolean) 0 := ⟨q_926, q_928, q_80, q_108, q_929, by decide +kernel, by decide +kernel, by decide +kernel⟩
theorem wdX7_82 : WdV RX7 82 yX7_seats cX7_seats 3 (some .int) 0 := ⟨q_930, q_932, q_81, q_108, q_933, by decide +kernel, by decide +kernel, by decide +kernel⟩
theorem wdL_48 : WdV RL 48 yX7_set cX7_set 4 (some .int) 2 := ⟨q_934, q_935, q_936, q_108, q_937, by decide +kernel, by decide +kernel, by decide +kernel⟩
theorem wdL_52 : WdV RL 52 yX7_puppetOf cX7_puppetOf 3 (some .int) 2 := ⟨q_938, q_939, q_940, q_108, q_941, by decide +kernel, by decide +kernel, by decide +kernel⟩
theorem wdX7_121 : WdV RX7 121 yX7_tiesOf cX7_tiesOf 4 (some .int) 1 := ⟨q_942, q_944, q_82, q_108, q_945, by decide +kernel, by decide +kernel, by decide +kernel⟩
theorem wdX7_124 : WdV RX7 124 yX7_groupOf cX7_groupOf 4 (some .int) 1 := ⟨q_946, q_948, q_83, q_108, q_949, by decide +kernel, by decide +kernel, by decide +kernel⟩
theorem wdX7_127 : WdV RX7 127 yX7_groupSeats cX7_groupSeats 4 (some .int) 1 := ⟨q_950, q_952, q_84, q_108, q_953, by decide +kernel, by decide +kernel, by decide +kernel⟩
theorem wdL_56 : WdV RL 56 yX7_stringOf cX7_stringOf 3 (some .int) 2 := ⟨q_954, q_955, q_956, q_108, q_957, by decide +kernel, by decide +kernel, by decide +kernel⟩
theorem wdL_60 : WdV RL 60 yX7_between cX7_between 6 (some .int) 2 := ⟨q_958, q_959, q_960, q_108, q_961, by decide +kernel, by decide +kernel, by decide +kernel⟩
theorem wdX7_130 : WdV RX7 130 yX7_reached cX7_reached 5 (some .int) 1 := ⟨q_962, q_964, q_85, q_108, q_965, by decide +kernel, by decide +kernel, by decide +kernel⟩
theorem wdL_64 : WdV RL 64 yX7_book cX7_book 3 (some .int) 2 := ⟨q_966, q_967, q_968, q_108, q_969, by decide +kernel, by decide +kernel, by decide +kernel⟩
theorem wdL_77 : WdV RL 77 yX7_bestPull cX7_bestPull 6 (some .int) 1 := ⟨q_970, q_971, q_972, q_108, q_973, by decide +kernel, by decide +kernel, by decide +kernel⟩
theorem wdX7_133 : WdV RX7 133 yX7_yesWith cX7_yesWith 5 (some .int) 2 := ⟨q_974, q_976, q_86, q_108, q_977, by decide +kernel, by decide +kernel, by decide +kernel⟩
theorem wdL_81 : WdV RL 81 yX7_fewest cX7_fewest 5 (some .int) 1 := ⟨q_978, q_979, q_980, q_108, q_981, by decide +kernel, by decide +kernel, by decide +kernel⟩
theorem wdX7_136 : WdV RX7 136 yX7_gains cX7_gains 5 (some .int) 0 := ⟨q_982, q_984, q_87, q_108, q_985, by decide +kernel, by decide +kernel, by decide +kernel⟩
theorem wdX7_139 : WdV RX7 139 yX7_greedy cX7_greedy 8 (some .int) 2 := ⟨q_986, q_988, q_88, q_108, q_989, by decide +kernel, by decide +kernel, by decide +kernel⟩
theorem wdX7_142 : WdV RX7 142 yX7_bySets cX7_bySets 8 (some .int) 2 := ⟨q_990, q_992, q_89, q_108, q_993, by decide +kernel, by decide +kernel, by decide +kernel⟩
theorem wdL_85 : WdV RL 85 yX7_ifCut cX7_ifCut 3 (some .int) 2 := ⟨q_994, q_995, q_996, q_108, q_997, by decide +kernel, by decide +kernel, by decide +kernel⟩
theorem wdX7_145 : WdV RX7 145 yX7_groups cX7_groups 3 (some .int) 0 := ⟨q_998, q_1000, q_90, q_108, q_1001, by decide +kernel, by decide +kernel, by decide +kernel⟩
theorem wdL_89 : WdV RL 89 yX7_share cX7_share 3 (some .int) 0 := ⟨q_1002, q_1003, q_1004, q_108, q_1005, by decide +kernel, by decide +kernel, by decide +kernel⟩
theorem wdX7_148 : WdS RX7 148 yJxf58ca_floatToIntBits_5c35a cJxf58ca_floatToIntBits_5c35a 1 (some .int) 1 := ⟨q_1006, q_1007, q_111, q_1008, by decide +kernel, by decide +kernel, by decide +kernel⟩
theorem wdJxf58ca_59 : WdS RJxf58ca 59 yJxf58ca_isNaN_12338 cJxf58ca_isNaN_12338 1 (some .boolean) 1 := ⟨q_1009, q_1010, q_111, q_1011, by decide +kernel, by decide +kernel, by decide +kernel⟩
theorem wdL_93 : WdV RL 93 yX7_count cX7_count 3 (some .int) 1 := ⟨q_1016, q_1017, q_1018, q_108, q_1019, by decide +kernel, by decide +kernel, by decide +kernel⟩
theorem wdX7_154 : WdV RX7 154 yX7_walked cX7_walked 6 (some .int) 0 := ⟨q_1020, q_1022, q_91, q_108, q_1023, by decide +kernel, by decide +kernel, by decide +kernel⟩
theorem wdX7_157 : WdV RX7 157 yX7_pulledSet cX7_pulledSet 3 (some .int) 0 := ⟨q_1024, q_1026, q_92, q_108, q_1027, by decide +kernel, by decide +kernel, by decide +kernel⟩
theorem wdL_97 : WdV RL 97 yX7_undo cX7_undo 2 (some .int) 0 := ⟨q_1028, q_1029, q_1030, q_108, q_1031, by decide +kernel, by decide +kernel, by decide +kernel⟩
theorem wdL_101 : WdV RL 101 yX7_type cX7_type 2 (some .int) 1 := ⟨q_1032, q_1033, q_1034, q_108, q_1035, by decide +kernel, by decide +kernel, by decide +kernel⟩
theorem wdL_105 : WdV RL 105 yX7_clearText cX7_clearText 2 (some .int) 0 := ⟨q_1036, q_1037, q_1038, q_108, q_1039, by decide +kernel, by decide +kernel, by decide +kernel⟩
theorem wdL_109 : WdV RL 109 yX7_fault cX7_fault 3 (some .int) 1 := ⟨q_1040, q_1041, q_1042, q_108, q_1043, by decide +kernel, by decide +kernel, by decide +kernel⟩
theorem wdX7_218 : WdS RX7 218 yX7_copies cX7_copies 3 none 2 := ⟨q_1044, q_1045, q_108, q_1046, by decide +kernel, by decide +kernel, by decide +kernel⟩
theorem wdX7_222 : WdV RX7 222 yX7_plays cX7_plays 4 (some .boolean) 0 := ⟨q_1047, q_1049, q_93, q_108, q_1050, by decide +kernel, by decide +kernel, by decide +kernel⟩
theorem wdX7_206 : WdV RX7 206 yX7_parses cX7_parses 4 (some .boolean) 0 := ⟨q_1051, q_1053, q_94, q_108, q_1054, by decide +kernel, by decide +kernel, by decide +kernel⟩
theorem wdX7_166 : WdV RX7 166 yX7_isAt cX7_isAt 3 (some .boolean) 2 := ⟨q_1055, q_1057, q_95, q_108, q_1058, by decide +kernel, by decide +kernel, by decide +kernel⟩
theorem wdX7_172 : WdS RX7 172 yX7_numbersOf cX7_numbersOf 1 (some .int) 1 := ⟨q_1059, q_1060, q_108, q_1061, by decide +kernel, by decide +kernel, by decide +kernel⟩
theorem wdX7_175 : WdV RX7 175 yX7_numbered cX7_numbered 3 (some .boolean) 1 := ⟨q_1062, q_1064, q_96, q_108, q_1065, by decide +kernel, by decide +kernel, by decide +kernel⟩
theorem wdX7_178 : WdV RX7 178 yX7_sign cX7_sign 3 (some .boolean) 1 := ⟨q_1066, q_1068, q_97, q_108, q_1069, by decide +kernel, by decide +kernel, by decide +kernel⟩
theorem wdX7_209 : WdV RX7 209 yX7_does cX7_does 1 (some .int) 0 := ⟨q_1070, q_1072, q_98, q_108, q_1073, by decide +kernel, by decide +kernel, by decide +kernel⟩
theorem wdX7_181 : WdV RX7 181 yX7_puppet cX7_puppet 4 (some .int) 2 := ⟨q_1074, q_857, q_858, q_108, q_859, by decide +kernel, by decide +kernel, by decide +kernel⟩
theorem wdX7_184 : WdV RX7 184 yX7_tie cX7_tie 6 (some .int) 4 := ⟨q_1075, q_866, q_867, q_108, q_868, by decide +kernel, by decide +kernel, by decide +kernel⟩
theorem wdX7_188 : WdV RX7 188 yX7_cut cX7_cut 2 (some .int) 1 := ⟨q_1076, q_871, q_872, q_108, q_873, by decide +kernel, by decide +kernel, by decide +kernel⟩
theorem wdX7_191 : WdV RX7 191 yX7_cutDeal cX7_cutDeal 4 (some .int) 1 := ⟨q_1077, q_883, q_884, q_108, q_885, by decide +kernel, by decide +kernel, by decide +kernel⟩
theorem wdX7_194 : WdV RX7 194 yX7_pull cX7_pull 3 (some .int) 2 := ⟨q_1078, q_903, q_904, q_108, q_905, by decide +kernel, by decide +kernel, by decide +kernel⟩
theorem wdX7_197 : WdV RX7 197 yX7_session cX7_session 4 (some .int) 0 := ⟨q_1079, q_923, q_924, q_108, q_925, by decide +kernel, by decide +kernel, by decide +kernel⟩
theorem wdL_113 : WdV RL 113 yX7_play cX7_play 2 (some .int) 0 := ⟨q_1080, q_1081, q_1082, q_108, q_1083, by decide +kernel, by decide +kernel, by decide +kernel⟩
end
section
def FUEL : Nat := 10000
theorem og {c : Prop} [Decidable c] {α : Type} {x : Option α} {u : α} (h : (if c then x else none) = some u) : c := by
  by_cases hc : c
  · exact hc
  · rw [if_neg hc] at h
    cases h
theorem vP_nil {D : va_G} {cl : List vw_C} {H : Heap} : va_P D cl [] H := fun k q h => by simp at h
section TSW
variable {p : Program} {l : Launch} {e : Env} {R : Room} {s : State} {m : MethodId} {args : Array Value} {below : List Frame} {meth : Method} {c : Code} {H : Heap} {locs : List Loc} {cells slots : Nat} {Q : State → Prop} {cc : ByteArray} {pc : Nat} {ls : Array Slot} {rest : List Value}
/-- a table switch goes its default way: none of the cases -/
theorem lv_tableD {dflt lo hi : Int} {offs : Array Int} {len : Nat} {x : Int32} {tgt : Nat} {cs : List Int32} (hexec : p.tables.exec = Jvm.exec) (hb : c.code = cc) (hdg : decode cc pc = .ok (.tableswitch dflt lo hi offs, len)) (ht : (pc : Int) + dflt = (tgt : Int))
    (hs : hi - lo < offs.size) (hk : (List.range offs.size).all (fun k => decide (offs[k]? = some dflt) || decide (Int32.ofInt (lo + k) ∈ cs)) = true) (hx : x ∉ cs)
    (k : W p l e R s m args below meth c H locs cells slots Q (F0 m tgt ls rest)) : W p l e R s m args below meth c H locs cells slots Q (F0 m pc ls (.int x :: rest)) := by
  by_cases h : x.toInt < lo ∨ hi < x.toInt
  · exact lv_tableOut hexec hb hdg h ht k
  · have h1 : ¬ x.toInt < lo := fun z => h (Or.inl z)
    have h2 : ¬ hi < x.toInt := fun z => h (Or.inr z)
    have hj : ((x.toInt - lo).toNat : Int) = x.toInt - lo := Int.toNat_of_nonneg (by omega)
    have hlt : (x.toInt - lo).toNat < offs.size := by omega
    have hh := List.all_eq_true.mp hk _ (List.mem_range.mpr hlt)
    rw [Bool.or_eq_true, decide_eq_true_eq, decide_eq_true_eq] at hh
    rcases hh with hh | hh
    · exact lv_tableIn hexec hb hdg h1 h2 hh ht k
    · refine absurd ?_ hx
      have e1 : lo + ((x.toInt - lo).toNat : Int) = x.toInt := by omega
      rw [e1, Int32.ofInt_toInt] at hh
      exact hh
end TSW
end
section
def X6_isIn (x0 : Int32) (x1 : Int32) (x2 : Int32) : Int32 := (if x0 < x1 then 0 else (if x2 < x0 then 0 else 1))
abbrev rm_X6_isIn : Room := { frames := 0, cells := 0, slots := 0, locals := 0 }
set_option maxHeartbeats 4000000 in
set_option maxRecDepth 100000 in
theorem c_X6_isIn (l : Launch) (D : va_G) (cI cP : ClassId) (x0 : Int32) (x1 : Int32) (x2 : Int32) (z : Int32) (hf : X6_isIn x0 x1 x2 = z) : MRd l yX6_isIn cX6_isIn 3 (some .boolean) rm_X6_isIn D cI cP [.int x0, .int x1, .int x2] [] z := by
  refine MRd.of (by decide +kernel) (Nat.le_of_ble_eq_true rfl) ?_
  intro p e s m args below meth c ls F hX hP hS hl
  have F : Fx p s m args meth c RX6 cX6_isIn 3 (some .boolean) := F
  have hx := F.1
  have hb := F.2.1
  have hown := F.2.2.2.1
  have hts := F.2.2.2.2.1
  have hA : ∀ q : Nat, s.heap.size ≤ q → (fun q : Nat => s.heap.size ≤ q) q := fun _ h => h
  have hl : lv_has ls 3 [(0, .int x0), (1, .int x1), (2, .int x2)] := hl
  unfold X6_isIn at hf
  refine lv_iload_n hx hb dX6_isIn_0 rfl (lv_at hl 0 rfl) ?_
  refine lv_iload_n hx hb dX6_isIn_1 rfl (lv_at hl 1 rfl) ?_
  refine lv_icmp_lt (tgt := 14) hx hb dX6_isIn_2 (by decide) (fun c_1 => ?_) (fun c_1 => ?_)
  · replace hf := (if_pos c_1).symm.trans hf
    refine lv_iconst (v := 0) hx hb dX6_isIn_14 (by decide) ?_
    exact rd_z F (by decide) hf hS dX6_isIn_15
  · replace hf := (if_neg c_1).symm.trans hf
    refine lv_iload_n hx hb dX6_isIn_5 rfl (lv_at hl 0 rfl) ?_
    refine lv_iload_n hx hb dX6_isIn_6 rfl (lv_at hl 2 rfl) ?_
    refine lv_icmp_gt (tgt := 14) hx hb dX6_isIn_7 (by decide) (fun c_2 => ?_) (fun c_2 => ?_)
    · replace hf := (if_pos c_2).symm.trans hf
      refine lv_iconst (v := 0) hx hb dX6_isIn_14 (by decide) ?_
      exact rd_z F (by decide) hf hS dX6_isIn_15
    · replace hf := (if_neg c_2).symm.trans hf
      refine lv_iconst (v := 1) hx hb dX6_isIn_10 (by decide) ?_
      refine lv_goto (tgt := 15) hx hb dX6_isIn_11 (by decide) ?_
      exact rd_z F (by decide) hf hS dX6_isIn_15
def X6_isMember (x0 : Int32) (x1 : Int32) : Int32 := (if ((x0 >>> (x1 &&& 31)) &&& 1) = 1 then 1 else 0)
abbrev rm_X6_isMember : Room := { frames := 0, cells := 0, slots := 0, locals := 0 }
set_option maxHeartbeats 4000000 in
set_option maxRecDepth 100000 in
theorem c_X6_isMember (l : Launch) (D : va_G) (cI cP : ClassId) (x0 : Int32) (x1 : Int32) (z : Int32) (hf : X6_isMember x0 x1 = z) : MRd l yX6_isMember cX6_isMember 2 (some .boolean) rm_X6_isMember D cI cP [.int x0, .int x1] [] z := by
  refine MRd.of (by decide +kernel) (Nat.le_of_ble_eq_true rfl) ?_
  intro p e s m args below meth c ls F hX hP hS hl
  have F : Fx p s m args meth c RX6 cX6_isMember 2 (some .boolean) := F
  have hx := F.1
  have hb := F.2.1
  have hown := F.2.2.2.1
  have hts := F.2.2.2.2.1
  have hA : ∀ q : Nat, s.heap.size ≤ q → (fun q : Nat => s.heap.size ≤ q) q := fun _ h => h
  have hl : lv_has ls 2 [(0, .int x0), (1, .int x1)] := hl
  unfold X6_isMember at hf
  refine lv_iload_n hx hb dX6_isMember_0 rfl (lv_at hl 0 rfl) ?_
  refine lv_iload_n hx hb dX6_isMember_1 rfl (lv_at hl 1 rfl) ?_
  refine lv_ishr hx hb dX6_isMember_2 ?_
  refine lv_iconst (v := 1) hx hb dX6_isMember_3 (by decide) ?_
  refine lv_iand hx hb dX6_isMember_4 ?_
  refine lv_iconst (v := 1) hx hb dX6_isMember_5 (by decide) ?_
  refine lv_icmp_ne (tgt := 13) hx hb dX6_isMember_6 (by decide) (fun c_1 => ?_) (fun c_1 => ?_)
  · replace hf := (if_neg c_1).symm.trans hf
    refine lv_iconst (v := 0) hx hb dX6_isMember_13 (by decide) ?_
    exact rd_z F (by decide) hf hS dX6_isMember_14
  · replace hf := (if_pos c_1).symm.trans hf
    refine lv_iconst (v := 1) hx hb dX6_isMember_9 (by decide) ?_
    refine lv_goto (tgt := 14) hx hb dX6_isMember_10 (by decide) ?_
    exact rd_z F (by decide) hf hS dX6_isMember_14
def X6_isError (x0 : Int32) : Int32 := (if 0 ≤ x0 then 0 else 1)
abbrev rm_X6_isError : Room := { frames := 0, cells := 0, slots := 0, locals := 0 }
set_option maxHeartbeats 4000000 in
set_option maxRecDepth 100000 in
theorem c_X6_isError (l : Launch) (D : va_G) (cI cP : ClassId) (x0 : Int32) (z : Int32) (hf : X6_isError x0 = z) : MRd l yX6_isError cX6_isError 1 (some .boolean) rm_X6_isError D cI cP [.int x0] [] z := by
  refine MRd.of (by decide +kernel) (Nat.le_of_ble_eq_true rfl) ?_
  intro p e s m args below meth c ls F hX hP hS hl
  have F : Fx p s m args meth c RX6 cX6_isError 1 (some .boolean) := F
  have hx := F.1
  have hb := F.2.1
  have hown := F.2.2.2.1
  have hts := F.2.2.2.2.1
  have hA : ∀ q : Nat, s.heap.size ≤ q → (fun q : Nat => s.heap.size ≤ q) q := fun _ h => h
  have hl : lv_has ls 1 [(0, .int x0)] := hl
  unfold X6_isError at hf
  refine lv_iload_n hx hb dX6_isError_0 rfl (lv_at hl 0 rfl) ?_
  refine lv_if_ge (tgt := 8) hx hb dX6_isError_1 (by decide) (fun c_1 => ?_) (fun c_1 => ?_)
  · replace hf := (if_pos c_1).symm.trans hf
    refine lv_iconst (v := 0) hx hb dX6_isError_8 (by decide) ?_
    exact rd_z F (by decide) hf hS dX6_isError_9
  · replace hf := (if_neg c_1).symm.trans hf
    refine lv_iconst (v := 1) hx hb dX6_isError_4 (by decide) ?_
    refine lv_goto (tgt := 9) hx hb dX6_isError_5 (by decide) ?_
    exact rd_z F (by decide) hf hS dX6_isError_9
def X4_isDigit (x0 : Int32) : Option (Int32) := (if ((X6_isIn x0 48 57) = 0 ∨ (X6_isIn x0 48 57) = 1) then some (X6_isIn x0 48 57) else none)
abbrev rm_X4_isDigit : Room := { frames := 1, cells := 0, slots := 0, locals := 22 }
set_option maxHeartbeats 4000000 in
set_option maxRecDepth 100000 in
theorem c_X4_isDigit (l : Launch) (D : va_G) (cI cP : ClassId) (x0 : Int32) (z : Int32) (hf : X4_isDigit x0 = some z) : MRd l yX4_isDigit cX4_isDigit 1 (some .boolean) rm_X4_isDigit D cI cP [.int x0] [] z := by
  refine MRd.of (by decide +kernel) (Nat.le_of_ble_eq_true rfl) ?_
  intro p e s m args below meth c ls F hX hP hS hl
  have F : Fx p s m args meth c RX4 cX4_isDigit 1 (some .boolean) := F
  have hx := F.1
  have hb := F.2.1
  have hown := F.2.2.2.1
  have hts := F.2.2.2.2.1
  have hA : ∀ q : Nat, s.heap.size ≤ q → (fun q : Nat => s.heap.size ≤ q) q := fun _ h => h
  have hl : lv_has ls 1 [(0, .int x0)] := hl
  unfold X4_isDigit at hf
  refine lv_iload_n hx hb dX4_isDigit_0 rfl (lv_at hl 0 rfl) ?_
  refine lv_bipush (v := 48) hx hb dX4_isDigit_1 (by decide) ?_
  refine lv_bipush (v := 57) hx hb dX4_isDigit_3 (by decide) ?_
  refine k_rd (runSN F hX wdX4_58 (rm := rm_X6_isIn) (As := [.int x0, .int 48, .int 57]) (rest := []) ⟨rfl, rfl⟩ ⟨Nat.le_of_ble_eq_true rfl, Nat.le_of_ble_eq_true rfl⟩ hl.1 rfl rfl (Nat.le_of_ble_eq_true rfl) dX4_isDigit_5 ⟨Nat.zero_le _, Nat.zero_le _⟩) (c_X6_isIn l D cI cP  x0 48 57 _ rfl) hX trivial (vP_nil) hP hS hA (fun H locs hP hS => ?_)
  have g_1 := og hf
  replace hf := (if_pos g_1).symm.trans hf
  exact rd_z F g_1 (Option.some.inj hf) hS dX4_isDigit_8
def X4_numbersBehind (x0 : Int32) : Int32 := (if x0 = 97 then 3 else (if x0 = 99 then 1 else (if x0 = 107 then 1 else (if x0 = 110 then 1 else (if x0 = 112 then 2 else (if x0 = 117 then 3 else (if x0 = 118 then 0 else (if x0 = 121 then 1 else (-1)))))))))
abbrev rm_X4_numbersBehind : Room := { frames := 0, cells := 0, slots := 0, locals := 0 }
set_option maxHeartbeats 4000000 in
set_option maxRecDepth 100000 in
theorem c_X4_numbersBehind (l : Launch) (D : va_G) (cI cP : ClassId) (x0 : Int32) (z : Int32) (hf : X4_numbersBehind x0 = z) : MRd l yX4_numbersBehind cX4_numbersBehind 1 (some .int) rm_X4_numbersBehind D cI cP [.int x0] [] z := by
  refine MRd.of (by decide +kernel) (Nat.le_of_ble_eq_true rfl) ?_
  intro p e s m args below meth c ls F hX hP hS hl
  have F : Fx p s m args meth c RX4 cX4_numbersBehind 1 (some .int) := F
  have hx := F.1
  have hb := F.2.1
  have hown := F.2.2.2.1
  have hts := F.2.2.2.2.1
  have hA : ∀ q : Nat, s.heap.size ≤ q → (fun q : Nat => s.heap.size ≤ q) q := fun _ h => h
  have hl : lv_has ls 1 [(0, .int x0)] := hl
  unfold X4_numbersBehind at hf
  refine lv_iload_n hx hb dX4_numbersBehind_0 rfl (lv_at hl 0 rfl) ?_
  rcases Decidable.em (x0 = 97) with c_1 | c_1
  · replace hf := (if_pos c_1).symm.trans hf
    refine lv_tableIn (off := 117) (tgt := 118) hx hb dX4_numbersBehind_1 (by rw [c_1]; decide) (by rw [c_1]; decide) (by rw [c_1]; rfl) (by decide) ?_
    refine lv_iconst (v := 3) hx hb dX4_numbersBehind_118 (by decide) ?_
    exact rd_i F hf hS dX4_numbersBehind_119
  replace hf := (if_neg c_1).symm.trans hf
  rcases Decidable.em (x0 = 99) with c_2 | c_2
  · replace hf := (if_pos c_2).symm.trans hf
    refine lv_tableIn (off := 119) (tgt := 120) hx hb dX4_numbersBehind_1 (by rw [c_2]; decide) (by rw [c_2]; decide) (by rw [c_2]; rfl) (by decide) ?_
    refine lv_iconst (v := 1) hx hb dX4_numbersBehind_120 (by decide) ?_
    exact rd_i F hf hS dX4_numbersBehind_121
  replace hf := (if_neg c_2).symm.trans hf
  rcases Decidable.em (x0 = 107) with c_3 | c_3
  · replace hf := (if_pos c_3).symm.trans hf
    refine lv_tableIn (off := 119) (tgt := 120) hx hb dX4_numbersBehind_1 (by rw [c_3]; decide) (by rw [c_3]; decide) (by rw [c_3]; rfl) (by decide) ?_
    refine lv_iconst (v := 1) hx hb dX4_numbersBehind_120 (by decide) ?_
    exact rd_i F hf hS dX4_numbersBehind_121
  replace hf := (if_neg c_3).symm.trans hf
  rcases Decidable.em (x0 = 110) with c_4 | c_4
  · replace hf := (if_pos c_4).symm.trans hf
    refine lv_tableIn (off := 119) (tgt := 120) hx hb dX4_numbersBehind_1 (by rw [c_4]; decide) (by rw [c_4]; decide) (by rw [c_4]; rfl) (by decide) ?_
    refine lv_iconst (v := 1) hx hb dX4_numbersBehind_120 (by decide) ?_
    exact rd_i F hf hS dX4_numbersBehind_121
  replace hf := (if_neg c_4).symm.trans hf
  rcases Decidable.em (x0 = 112) with c_5 | c_5
  · replace hf := (if_pos c_5).symm.trans hf
    refine lv_tableIn (off := 115) (tgt := 116) hx hb dX4_numbersBehind_1 (by rw [c_5]; decide) (by rw [c_5]; decide) (by rw [c_5]; rfl) (by decide) ?_
    refine lv_iconst (v := 2) hx hb dX4_numbersBehind_116 (by decide) ?_
    exact rd_i F hf hS dX4_numbersBehind_117
  replace hf := (if_neg c_5).symm.trans hf
  rcases Decidable.em (x0 = 117) with c_6 | c_6
  · replace hf := (if_pos c_6).symm.trans hf
    refine lv_tableIn (off := 117) (tgt := 118) hx hb dX4_numbersBehind_1 (by rw [c_6]; decide) (by rw [c_6]; decide) (by rw [c_6]; rfl) (by decide) ?_
    refine lv_iconst (v := 3) hx hb dX4_numbersBehind_118 (by decide) ?_
    exact rd_i F hf hS dX4_numbersBehind_119
  replace hf := (if_neg c_6).symm.trans hf
  rcases Decidable.em (x0 = 118) with c_7 | c_7
  · replace hf := (if_pos c_7).symm.trans hf
    refine lv_tableIn (off := 121) (tgt := 122) hx hb dX4_numbersBehind_1 (by rw [c_7]; decide) (by rw [c_7]; decide) (by rw [c_7]; rfl) (by decide) ?_
    refine lv_iconst (v := 0) hx hb dX4_numbersBehind_122 (by decide) ?_
    exact rd_i F hf hS dX4_numbersBehind_123
  replace hf := (if_neg c_7).symm.trans hf
  rcases Decidable.em (x0 = 121) with c_8 | c_8
  · replace hf := (if_pos c_8).symm.trans hf
    refine lv_tableIn (off := 119) (tgt := 120) hx hb dX4_numbersBehind_1 (by rw [c_8]; decide) (by rw [c_8]; decide) (by rw [c_8]; rfl) (by decide) ?_
    refine lv_iconst (v := 1) hx hb dX4_numbersBehind_120 (by decide) ?_
    exact rd_i F hf hS dX4_numbersBehind_121
  replace hf := (if_neg c_8).symm.trans hf
  refine lv_tableD (tgt := 124) (cs := [97, 99, 107, 110, 112, 117, 118, 121]) hx hb dX4_numbersBehind_1 (by decide) (by decide) (by decide) (by simp [c_1, c_2, c_3, c_4, c_5, c_6, c_7, c_8]) ?_
  refine lv_iconst (v := (-1)) hx hb dX4_numbersBehind_124 (by decide) ?_
  exact rd_i F hf hS dX4_numbersBehind_125
def X2_get (nn : Nat) (K : (Nat → Int32)) (x1 : Int32) : Option (Int32) := (if x1 < 0 then some 0 else (if (nI nn) ≤ x1 then some 0 else (if ¬ (x1 < 0 ∨ nn ≤ Int32.toNatClampNeg x1) then some (K (Int32.toNatClampNeg x1)) else none)))
abbrev rm_X2_get : Room := { frames := 0, cells := 0, slots := 0, locals := 0 }
set_option maxHeartbeats 4000000 in
set_option maxRecDepth 100000 in
theorem c_X2_get (l : Launch) (D : va_G) (cI cP : ClassId) (r d nn : Nat) (K : (Nat → Int32)) (x1 : Int32) (z : Int32) (hf : X2_get nn K x1 = some z) : MRd l yX2_get cX2_get 2 (some .int) rm_X2_get D cI cP [.ref r, .int x1] (wRow cI r d nn K) z := by
  refine MRd.of (by decide +kernel) (Nat.le_of_ble_eq_true rfl) ?_
  intro p e s m args below meth c ls F hX hP hS hl
  have F : Fx p s m args meth c RX2 cX2_get 2 (some .int) := F
  have hx := F.1
  have hb := F.2.1
  have hown := F.2.2.2.1
  have hts := F.2.2.2.2.1
  have hA : ∀ q : Nat, s.heap.size ≤ q → (fun q : Nat => s.heap.size ≤ q) q := fun _ h => h
  have hl : lv_has ls 2 [(0, .ref r), (1, .int x1)] := hl
  unfold X2_get at hf
  refine lv_iload_n hx hb dX2_get_0 rfl (lv_at hl 1 rfl) ?_
  refine lv_if_lt (tgt := 22) hx hb dX2_get_1 (by decide) (fun c_1 => ?_) (fun c_1 => ?_)
  · replace hf := (if_pos c_1).symm.trans hf
    refine lv_iconst (v := 0) hx hb dX2_get_22 (by decide) ?_
    exact rd_i F (Option.some.inj hf) hS dX2_get_23
  · replace hf := (if_neg c_1).symm.trans hf
    refine lv_iload_n hx hb dX2_get_4 rfl (lv_at hl 1 rfl) ?_
    refine lv_aload_n hx hb dX2_get_5 rfl (lv_at hl 0 rfl) ?_
    refine gX2_13 F hX hP 0 rfl (v := .ref d) rfl dX2_get_6 ?_
    refine va_alen hx hb hX.1 hP 1 0 rfl rfl (v := nI nn) rfl dX2_get_9 ?_
    refine lv_icmp_ge (tgt := 22) hx hb dX2_get_10 (by decide) (fun c_2 => ?_) (fun c_2 => ?_)
    · replace hf := (if_pos c_2).symm.trans hf
      refine lv_iconst (v := 0) hx hb dX2_get_22 (by decide) ?_
      exact rd_i F (Option.some.inj hf) hS dX2_get_23
    · replace hf := (if_neg c_2).symm.trans hf
      refine lv_aload_n hx hb dX2_get_13 rfl (lv_at hl 0 rfl) ?_
      refine gX2_13 F hX hP 0 rfl (v := .ref d) rfl dX2_get_14 ?_
      refine lv_iload_n hx hb dX2_get_17 rfl (lv_at hl 1 rfl) ?_
      have g_3 := og hf
      replace hf := (if_pos g_3).symm.trans hf
      refine va_iald hx hb hX.1 hP 1 0 (n := nn) (f := K) rfl rfl g_3 dX2_get_18 ?_
      refine lv_goto (tgt := 23) hx hb dX2_get_19 (by decide) ?_
      exact rd_i F (Option.some.inj hf) hS dX2_get_23
def X2_put (nn : Nat) (K : (Nat → Int32)) (x1 : Int32) (x2 : Int32) : Option ((Nat → Int32)) := (if x1 < 0 then some K else (if (nI nn) ≤ x1 then some K else (if ¬ (x1 < 0 ∨ nn ≤ Int32.toNatClampNeg x1) then some (upd K (Int32.toNatClampNeg x1) x2) else none)))
abbrev rm_X2_put : Room := { frames := 0, cells := 0, slots := 0, locals := 0 }
set_option maxHeartbeats 4000000 in
set_option maxRecDepth 100000 in
theorem c_X2_put (l : Launch) (D : va_G) (cI cP : ClassId) (r d nn : Nat) (K : (Nat → Int32)) (x1 : Int32) (x2 : Int32) (z : (Nat → Int32)) (hf : X2_put nn K x1 x2 = some z) : MWv l yX2_put cX2_put 3 none rm_X2_put D cI cP [.ref r, .int x1, .int x2] (wRow cI r d nn K) (wRow cI r d nn z) := by
  refine MWv.of (by decide +kernel) (Nat.le_of_ble_eq_true rfl) ?_
  intro p e s m args below meth c ls A F hX hP hD hA hS hl
  have F : Fx p s m args meth c RX2 cX2_put 3 none := F
  have hx := F.1
  have hb := F.2.1
  have hown := F.2.2.2.1
  have hts := F.2.2.2.2.1
  have hl : lv_has ls 3 [(0, .ref r), (1, .int x1), (2, .int x2)] := hl
  unfold X2_put at hf
  refine lv_iload_n hx hb dX2_put_0 rfl (lv_at hl 1 rfl) ?_
  refine lv_if_lt (tgt := 20) hx hb dX2_put_1 (by decide) (fun c_1 => ?_) (fun c_1 => ?_)
  · replace hf := (if_pos c_1).symm.trans hf
    obtain rfl := (Option.some.inj hf)
    exact wr_v F hP hS dX2_put_20
  · replace hf := (if_neg c_1).symm.trans hf
    refine lv_iload_n hx hb dX2_put_4 rfl (lv_at hl 1 rfl) ?_
    refine lv_aload_n hx hb dX2_put_5 rfl (lv_at hl 0 rfl) ?_
    refine gX2_13 F hX hP 0 rfl (v := .ref d) rfl dX2_put_6 ?_
    refine va_alen hx hb hX.1 hP 1 0 rfl rfl (v := nI nn) rfl dX2_put_9 ?_
    refine lv_icmp_ge (tgt := 20) hx hb dX2_put_10 (by decide) (fun c_2 => ?_) (fun c_2 => ?_)
    · replace hf := (if_pos c_2).symm.trans hf
      obtain rfl := (Option.some.inj hf)
      exact wr_v F hP hS dX2_put_20
    · replace hf := (if_neg c_2).symm.trans hf
      refine lv_aload_n hx hb dX2_put_13 rfl (lv_at hl 0 rfl) ?_
      refine gX2_13 F hX hP 0 rfl (v := .ref d) rfl dX2_put_14 ?_
      refine lv_iload_n hx hb dX2_put_17 rfl (lv_at hl 1 rfl) ?_
      refine lv_iload_n hx hb dX2_put_18 rfl (lv_at hl 2 rfl) ?_
      have g_3 := og hf
      replace hf := (if_pos g_3).symm.trans hf
      refine va_iast hx hb hX.1 hP hD hS 1 0 (n := nn) (f := K) rfl rfl g_3 dX2_put_19 (fun H locs hP hD hS => ?_)
      have hP : va_P D vwCl (wRow cI r d nn (upd K (Int32.toNatClampNeg x1) x2)) H := hP
      have hD : va_D A (wRow cI r d nn (upd K (Int32.toNatClampNeg x1) x2)) := hD
      obtain rfl := (Option.some.inj hf)
      exact wr_v F hP hS dX2_put_20
def X2_removeAt_L7 : Nat → Nat → (Nat → Int32) → Int32 → Option ((Nat → Int32))
  | 0, _, _, _ => none
  | fu + 1, nn, K_7, x2_7 => (if (nI nn) ≤ (x2_7 + 1) then some K_7 else (if ¬ ((x2_7 + 1) < 0 ∨ nn ≤ Int32.toNatClampNeg (x2_7 + 1)) then (if ¬ (x2_7 < 0 ∨ nn ≤ Int32.toNatClampNeg x2_7) then X2_removeAt_L7 fu nn (upd K_7 (Int32.toNatClampNeg x2_7) (K_7 (Int32.toNatClampNeg (x2_7 + 1)))) (x2_7 + 1) else none) else none))
def X2_removeAt (nn : Nat) (K : (Nat → Int32)) (x1 : Int32) : Option ((Nat → Int32)) := (if 0 ≤ x1 then ((X2_removeAt_L7 FUEL nn K x1).bind fun u_5 => some u_5) else some K)
abbrev rm_X2_removeAt : Room := { frames := 0, cells := 0, slots := 0, locals := 0 }
set_option maxHeartbeats 4000000 in
set_option maxRecDepth 100000 in
theorem c_X2_removeAt (l : Launch) (D : va_G) (cI cP : ClassId) (r d nn : Nat) (K : (Nat → Int32)) (x1 : Int32) (z : (Nat → Int32)) (hf : X2_removeAt nn K x1 = some z) : MWv l yX2_removeAt cX2_removeAt 3 none rm_X2_removeAt D cI cP [.ref r, .int x1] (wRow cI r d nn K) (wRow cI r d nn z) := by
  refine MWv.of (by decide +kernel) (Nat.le_of_ble_eq_true rfl) ?_
  intro p e s m args below meth c ls A F hX hP hD hA hS hl
  have F : Fx p s m args meth c RX2 cX2_removeAt 3 none := F
  have hx := F.1
  have hb := F.2.1
  have hown := F.2.2.2.1
  have hts := F.2.2.2.2.1
  have hl : lv_has ls 3 [(0, .ref r), (1, .int x1)] := hl
  unfold X2_removeAt at hf
  refine lv_iload_n hx hb dX2_removeAt_0 rfl (lv_at hl 1 rfl) ?_
  refine lv_if_ge (tgt := 5) hx hb dX2_removeAt_1 (by decide) (fun c_1 => ?_) (fun c_1 => ?_)
  · replace hf := (if_pos c_1).symm.trans hf
    refine lv_iload_n hx hb dX2_removeAt_5 rfl (lv_at hl 1 rfl) ?_
    refine lv_istore_n (lv' := [(2, .int x1), (0, .ref r), (1, .int x1)]) hx hb dX2_removeAt_6 rfl hl (by decide) rfl (fun ls hl => ?_)
    have hL_7 : ∀ (fu : Nat) (nn : Nat) (K_7 : (Nat → Int32)) (x2_7 : Int32) (v : (Nat → Int32)) (H : Heap) (locs : List Loc) (ls : Array Slot), X2_removeAt_L7 fu nn K_7 x2_7 = some v → va_P D vwCl (wRow cI r d nn K_7) H → va_D A (wRow cI r d nn K_7) → va_S A s.heap H locs → lv_has ls 3 [(0, .ref r), (2, .int x2_7)] → (∀ (H : Heap) (locs : List Loc) (ls : Array Slot), va_P D vwCl (wRow cI r d nn v) H → va_D A (wRow cI r d nn v) → va_S A s.heap H locs → lv_has ls 3 [] → W p l e rm_X2_removeAt s m args below meth c H locs 0 0 (QWv D below args s A (wRow cI r d nn z)) (F0 m 38 ls [])) → W p l e rm_X2_removeAt s m args below meth c H locs 0 0 (QWv D below args s A (wRow cI r d nn z)) (F0 m 7 ls []) := by
      intro fu
      induction fu with
      | zero =>
        intro nn K_7 x2_7 v H locs ls hf
        exact absurd hf (by simp [X2_removeAt_L7])
      | succ fu ih =>
        intro nn K_7 x2_7 v _ _ ls hf hP hD hS hl hk
        rw [X2_removeAt_L7] at hf
        refine lv_iload_n hx hb dX2_removeAt_7 rfl (lv_at hl 1 rfl) ?_
        refine lv_iconst (v := 1) hx hb dX2_removeAt_8 (by decide) ?_
        refine lv_iadd hx hb dX2_removeAt_9 ?_
        refine lv_aload_n hx hb dX2_removeAt_10 rfl (lv_at hl 0 rfl) ?_
        refine gX2_13 F hX hP 0 rfl (v := .ref d) rfl dX2_removeAt_11 ?_
        refine va_alen hx hb hX.1 hP 1 0 rfl rfl (v := nI nn) rfl dX2_removeAt_14 ?_
        refine lv_icmp_ge (tgt := 38) hx hb dX2_removeAt_15 (by decide) (fun c_2 => ?_) (fun c_2 => ?_)
        · replace hf := (if_pos c_2).symm.trans hf
          obtain rfl := Option.some.inj hf
          exact hk _ _ ls hP hD hS (lv_sub hl [] rfl)
        · replace hf := (if_neg c_2).symm.trans hf
          refine lv_aload_n hx hb dX2_removeAt_18 rfl (lv_at hl 0 rfl) ?_
          refine gX2_13 F hX hP 0 rfl (v := .ref d) rfl dX2_removeAt_19 ?_
          refine lv_iload_n hx hb dX2_removeAt_22 rfl (lv_at hl 1 rfl) ?_
          refine lv_aload_n hx hb dX2_removeAt_23 rfl (lv_at hl 0 rfl) ?_
          refine gX2_13 F hX hP 0 rfl (v := .ref d) rfl dX2_removeAt_24 ?_
          refine lv_iload_n hx hb dX2_removeAt_27 rfl (lv_at hl 1 rfl) ?_
          refine lv_iconst (v := 1) hx hb dX2_removeAt_28 (by decide) ?_
          refine lv_iadd hx hb dX2_removeAt_29 ?_
          have g_3 := og hf
          replace hf := (if_pos g_3).symm.trans hf
          refine va_iald hx hb hX.1 hP 1 0 (n := nn) (f := K_7) rfl rfl g_3 dX2_removeAt_30 ?_
          have g_4 := og hf
          replace hf := (if_pos g_4).symm.trans hf
          refine va_iast hx hb hX.1 hP hD hS 1 0 (n := nn) (f := K_7) rfl rfl g_4 dX2_removeAt_31 (fun H locs hP hD hS => ?_)
          have hP : va_P D vwCl (wRow cI r d nn (upd K_7 (Int32.toNatClampNeg x2_7) (K_7 (Int32.toNatClampNeg (x2_7 + 1))))) H := hP
          have hD : va_D A (wRow cI r d nn (upd K_7 (Int32.toNatClampNeg x2_7) (K_7 (Int32.toNatClampNeg (x2_7 + 1))))) := hD
          refine lv_iinc (v := (x2_7 + 1)) (lv' := [(2, .int (x2_7 + 1)), (0, .ref r)]) hx hb dX2_removeAt_32 hl (k := 1) rfl (by rfl) (by decide) rfl (fun ls hl => ?_)
          refine lv_goto (tgt := 7) hx hb dX2_removeAt_35 (by decide) ?_
          exact ih nn (upd K_7 (Int32.toNatClampNeg x2_7) (K_7 (Int32.toNatClampNeg (x2_7 + 1)))) (x2_7 + 1) _ _ _ ls hf hP hD hS (lv_sub hl [1, 0] rfl) hk
    obtain ⟨u_5, h_6, hf⟩ := ob hf
    refine hL_7 FUEL nn K x1 u_5 _ _ ls h_6 hP hD hS (lv_sub hl [1, 0] rfl) (fun H locs ls hP hD hS hl => ?_)
    clear hL_7
    obtain rfl := (Option.some.inj hf)
    exact wr_v F hP hS dX2_removeAt_38
  · replace hf := (if_neg c_1).symm.trans hf
    obtain rfl := (Option.some.inj hf)
    exact wr_v F hP hS dX2_removeAt_4
end
