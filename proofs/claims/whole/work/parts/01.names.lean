-- ===== PART A: goes FIRST, ahead of the names: the tables' words, and 'selects' of the private methods out of them =====
/-- a private method of a class that the tables say can be made, by its rows of tables_1 -/
def lw_okq (q : MethodName × Nat) : Prop := (q.1.cls ≠ "java/lang/invoke/MethodHandle" ∧ q.1.cls ≠ "java/lang/invoke/VarHandle") ∧ Cond.instantiable q.1.cls q.2 ∈ tables_1 ∧ Cond.privateMethod q.1 ∈ tables_1 ∧ Cond.instanceMethod q.1 ∈ tables_1
theorem lw_p0 : lw_okq (⟨"LibraryCirculation", "becomeFree", "(II)V"⟩, 6) := ⟨⟨by decide +kernel, by decide +kernel⟩, List.mem_of_getElem? (i := 10) (by decide +kernel), List.mem_of_getElem? (i := 154) (by decide +kernel), List.mem_of_getElem? (i := 155) (by decide +kernel)⟩
theorem lw_p1 : lw_okq (⟨"LibraryCirculation", "titleOf", "(I)I"⟩, 6) := ⟨⟨by decide +kernel, by decide +kernel⟩, List.mem_of_getElem? (i := 10) (by decide +kernel), List.mem_of_getElem? (i := 158) (by decide +kernel), List.mem_of_getElem? (i := 159) (by decide +kernel)⟩
theorem lw_p2 : lw_okq (⟨"LibraryCirculation", "firstWaiting", "(I)I"⟩, 6) := ⟨⟨by decide +kernel, by decide +kernel⟩, List.mem_of_getElem? (i := 10) (by decide +kernel), List.mem_of_getElem? (i := 166) (by decide +kernel), List.mem_of_getElem? (i := 167) (by decide +kernel)⟩
theorem lw_p3 : lw_okq (⟨"LibraryCirculation", "isWaiting", "(II)Z"⟩, 6) := ⟨⟨by decide +kernel, by decide +kernel⟩, List.mem_of_getElem? (i := 10) (by decide +kernel), List.mem_of_getElem? (i := 174) (by decide +kernel), List.mem_of_getElem? (i := 175) (by decide +kernel)⟩
theorem lw_p4 : lw_okq (⟨"LibraryCirculation", "putLoan", "(IIII)V"⟩, 6) := ⟨⟨by decide +kernel, by decide +kernel⟩, List.mem_of_getElem? (i := 10) (by decide +kernel), List.mem_of_getElem? (i := 178) (by decide +kernel), List.mem_of_getElem? (i := 179) (by decide +kernel)⟩
theorem lw_p5 : lw_okq (⟨"LibraryCirculation", "putCopy", "(IIII)V"⟩, 6) := ⟨⟨by decide +kernel, by decide +kernel⟩, List.mem_of_getElem? (i := 10) (by decide +kernel), List.mem_of_getElem? (i := 188) (by decide +kernel), List.mem_of_getElem? (i := 189) (by decide +kernel)⟩
theorem lw_p6 : lw_okq (⟨"LibraryCirculation", "valueOf", "(I)I"⟩, 6) := ⟨⟨by decide +kernel, by decide +kernel⟩, List.mem_of_getElem? (i := 10) (by decide +kernel), List.mem_of_getElem? (i := 192) (by decide +kernel), List.mem_of_getElem? (i := 193) (by decide +kernel)⟩
theorem lw_p7 : lw_okq (⟨"LibraryCirculation", "settle", "(I)I"⟩, 6) := ⟨⟨by decide +kernel, by decide +kernel⟩, List.mem_of_getElem? (i := 10) (by decide +kernel), List.mem_of_getElem? (i := 196) (by decide +kernel), List.mem_of_getElem? (i := 197) (by decide +kernel)⟩
theorem lw_p8 : lw_okq (⟨"LibraryCirculation", "commit", "()V"⟩, 6) := ⟨⟨by decide +kernel, by decide +kernel⟩, List.mem_of_getElem? (i := 10) (by decide +kernel), List.mem_of_getElem? (i := 200) (by decide +kernel), List.mem_of_getElem? (i := 201) (by decide +kernel)⟩
theorem lw_p9 : lw_okq (⟨"LibraryCirculation$History", "at", "(I)LLibraryCirculation$State;"⟩, 3) := ⟨⟨by decide +kernel, by decide +kernel⟩, List.mem_of_getElem? (i := 83) (by decide +kernel), List.mem_of_getElem? (i := 208) (by decide +kernel), List.mem_of_getElem? (i := 209) (by decide +kernel)⟩
theorem lw_p10 : lw_okq (⟨"LibraryCirculation", "isCopy", "(I)Z"⟩, 6) := ⟨⟨by decide +kernel, by decide +kernel⟩, List.mem_of_getElem? (i := 10) (by decide +kernel), List.mem_of_getElem? (i := 255) (by decide +kernel), List.mem_of_getElem? (i := 256) (by decide +kernel)⟩
theorem lw_p11 : lw_okq (⟨"LibraryCirculation", "stateOf", "(I)I"⟩, 6) := ⟨⟨by decide +kernel, by decide +kernel⟩, List.mem_of_getElem? (i := 10) (by decide +kernel), List.mem_of_getElem? (i := 263) (by decide +kernel), List.mem_of_getElem? (i := 264) (by decide +kernel)⟩
theorem lw_p12 : lw_okq (⟨"LibraryCirculation", "letPass", "(I)I"⟩, 6) := ⟨⟨by decide +kernel, by decide +kernel⟩, List.mem_of_getElem? (i := 10) (by decide +kernel), List.mem_of_getElem? (i := 279) (by decide +kernel), List.mem_of_getElem? (i := 280) (by decide +kernel)⟩
theorem lw_p13 : lw_okq (⟨"LibraryCirculation", "arriveOnThisDay", "()V"⟩, 6) := ⟨⟨by decide +kernel, by decide +kernel⟩, List.mem_of_getElem? (i := 10) (by decide +kernel), List.mem_of_getElem? (i := 283) (by decide +kernel), List.mem_of_getElem? (i := 284) (by decide +kernel)⟩
theorem lw_p14 : lw_okq (⟨"LibraryCirculation", "expireBeforeThisDay", "()V"⟩, 6) := ⟨⟨by decide +kernel, by decide +kernel⟩, List.mem_of_getElem? (i := 10) (by decide +kernel), List.mem_of_getElem? (i := 287) (by decide +kernel), List.mem_of_getElem? (i := 288) (by decide +kernel)⟩
theorem lw_p15 : lw_okq (⟨"LibraryCirculation", "findHold", "(II)I"⟩, 6) := ⟨⟨by decide +kernel, by decide +kernel⟩, List.mem_of_getElem? (i := 10) (by decide +kernel), List.mem_of_getElem? (i := 291) (by decide +kernel), List.mem_of_getElem? (i := 292) (by decide +kernel)⟩
def lw_privs_1 : List (MethodName × Nat) := [(⟨"LibraryCirculation", "becomeFree", "(II)V"⟩, 6), (⟨"LibraryCirculation", "titleOf", "(I)I"⟩, 6), (⟨"LibraryCirculation", "firstWaiting", "(I)I"⟩, 6), (⟨"LibraryCirculation", "isWaiting", "(II)Z"⟩, 6), (⟨"LibraryCirculation", "putLoan", "(IIII)V"⟩, 6), (⟨"LibraryCirculation", "putCopy", "(IIII)V"⟩, 6), (⟨"LibraryCirculation", "valueOf", "(I)I"⟩, 6), (⟨"LibraryCirculation", "settle", "(I)I"⟩, 6), (⟨"LibraryCirculation", "commit", "()V"⟩, 6), (⟨"LibraryCirculation$History", "at", "(I)LLibraryCirculation$State;"⟩, 3), (⟨"LibraryCirculation", "isCopy", "(I)Z"⟩, 6), (⟨"LibraryCirculation", "stateOf", "(I)I"⟩, 6), (⟨"LibraryCirculation", "letPass", "(I)I"⟩, 6), (⟨"LibraryCirculation", "arriveOnThisDay", "()V"⟩, 6), (⟨"LibraryCirculation", "expireBeforeThisDay", "()V"⟩, 6), (⟨"LibraryCirculation", "findHold", "(II)I"⟩, 6)]
theorem lw_r1 : ∀ q ∈ lw_privs_1, lw_okq q := List.forall_mem_cons.mpr ⟨lw_p0, List.forall_mem_cons.mpr ⟨lw_p1, List.forall_mem_cons.mpr ⟨lw_p2, List.forall_mem_cons.mpr ⟨lw_p3, List.forall_mem_cons.mpr ⟨lw_p4, List.forall_mem_cons.mpr ⟨lw_p5, List.forall_mem_cons.mpr ⟨lw_p6, List.forall_mem_cons.mpr ⟨lw_p7, List.forall_mem_cons.mpr ⟨lw_p8, List.forall_mem_cons.mpr ⟨lw_p9, List.forall_mem_cons.mpr ⟨lw_p10, List.forall_mem_cons.mpr ⟨lw_p11, List.forall_mem_cons.mpr ⟨lw_p12, List.forall_mem_cons.mpr ⟨lw_p13, List.forall_mem_cons.mpr ⟨lw_p14, List.forall_mem_cons.mpr ⟨lw_p15, fun _ h => absurd h List.not_mem_nil⟩⟩⟩⟩⟩⟩⟩⟩⟩⟩⟩⟩⟩⟩⟩⟩
theorem lw_p16 : lw_okq (⟨"LibraryCirculation", "removeHold", "(I)V"⟩, 6) := ⟨⟨by decide +kernel, by decide +kernel⟩, List.mem_of_getElem? (i := 10) (by decide +kernel), List.mem_of_getElem? (i := 295) (by decide +kernel), List.mem_of_getElem? (i := 296) (by decide +kernel)⟩
theorem lw_p17 : lw_okq (⟨"LibraryCirculation", "endClaims", "()V"⟩, 6) := ⟨⟨by decide +kernel, by decide +kernel⟩, List.mem_of_getElem? (i := 10) (by decide +kernel), List.mem_of_getElem? (i := 305) (by decide +kernel), List.mem_of_getElem? (i := 306) (by decide +kernel)⟩
theorem lw_p18 : lw_okq (⟨"LibraryCirculation", "becomeLost", "(I)V"⟩, 6) := ⟨⟨by decide +kernel, by decide +kernel⟩, List.mem_of_getElem? (i := 10) (by decide +kernel), List.mem_of_getElem? (i := 309) (by decide +kernel), List.mem_of_getElem? (i := 310) (by decide +kernel)⟩
theorem lw_p19 : lw_okq (⟨"LibraryCirculation", "fineOf", "(I)I"⟩, 6) := ⟨⟨by decide +kernel, by decide +kernel⟩, List.mem_of_getElem? (i := 10) (by decide +kernel), List.mem_of_getElem? (i := 313) (by decide +kernel), List.mem_of_getElem? (i := 314) (by decide +kernel)⟩
theorem lw_p20 : lw_okq (⟨"LibraryCirculation", "enter", "(IIII)V"⟩, 6) := ⟨⟨by decide +kernel, by decide +kernel⟩, List.mem_of_getElem? (i := 10) (by decide +kernel), List.mem_of_getElem? (i := 320) (by decide +kernel), List.mem_of_getElem? (i := 321) (by decide +kernel)⟩
theorem lw_p21 : lw_okq (⟨"LibraryCirculation", "lendOut", "(II)I"⟩, 6) := ⟨⟨by decide +kernel, by decide +kernel⟩, List.mem_of_getElem? (i := 10) (by decide +kernel), List.mem_of_getElem? (i := 328) (by decide +kernel), List.mem_of_getElem? (i := 329) (by decide +kernel)⟩
theorem lw_p22 : lw_okq (⟨"LibraryCirculation", "reasonAgainstLending", "(II)I"⟩, 6) := ⟨⟨by decide +kernel, by decide +kernel⟩, List.mem_of_getElem? (i := 10) (by decide +kernel), List.mem_of_getElem? (i := 332) (by decide +kernel), List.mem_of_getElem? (i := 333) (by decide +kernel)⟩
theorem lw_p23 : lw_okq (⟨"LibraryCirculation", "isPatron", "(I)Z"⟩, 6) := ⟨⟨by decide +kernel, by decide +kernel⟩, List.mem_of_getElem? (i := 10) (by decide +kernel), List.mem_of_getElem? (i := 336) (by decide +kernel), List.mem_of_getElem? (i := 337) (by decide +kernel)⟩
theorem lw_p24 : lw_okq (⟨"LibraryCirculation", "owesTheLimit", "(I)Z"⟩, 6) := ⟨⟨by decide +kernel, by decide +kernel⟩, List.mem_of_getElem? (i := 10) (by decide +kernel), List.mem_of_getElem? (i := 340) (by decide +kernel), List.mem_of_getElem? (i := 341) (by decide +kernel)⟩
theorem lw_p25 : lw_okq (⟨"LibraryCirculation", "loanCount", "(I)I"⟩, 6) := ⟨⟨by decide +kernel, by decide +kernel⟩, List.mem_of_getElem? (i := 10) (by decide +kernel), List.mem_of_getElem? (i := 344) (by decide +kernel), List.mem_of_getElem? (i := 345) (by decide +kernel)⟩
theorem lw_p26 : lw_okq (⟨"LibraryCirculation", "isAt", "(III)Z"⟩, 6) := ⟨⟨by decide +kernel, by decide +kernel⟩, List.mem_of_getElem? (i := 10) (by decide +kernel), List.mem_of_getElem? (i := 348) (by decide +kernel), List.mem_of_getElem? (i := 349) (by decide +kernel)⟩
theorem lw_p27 : lw_okq (⟨"LibraryCirculation", "canBeTakenBy", "(II)Z"⟩, 6) := ⟨⟨by decide +kernel, by decide +kernel⟩, List.mem_of_getElem? (i := 10) (by decide +kernel), List.mem_of_getElem? (i := 352) (by decide +kernel), List.mem_of_getElem? (i := 353) (by decide +kernel)⟩
theorem lw_p28 : lw_okq (⟨"LibraryCirculation", "takeBack", "(II)I"⟩, 6) := ⟨⟨by decide +kernel, by decide +kernel⟩, List.mem_of_getElem? (i := 10) (by decide +kernel), List.mem_of_getElem? (i := 363) (by decide +kernel), List.mem_of_getElem? (i := 364) (by decide +kernel)⟩
theorem lw_p29 : lw_okq (⟨"LibraryCirculation", "isWithPatron", "(I)Z"⟩, 6) := ⟨⟨by decide +kernel, by decide +kernel⟩, List.mem_of_getElem? (i := 10) (by decide +kernel), List.mem_of_getElem? (i := 367) (by decide +kernel), List.mem_of_getElem? (i := 368) (by decide +kernel)⟩
theorem lw_p30 : lw_okq (⟨"LibraryCirculation", "renewLoan", "(I)I"⟩, 6) := ⟨⟨by decide +kernel, by decide +kernel⟩, List.mem_of_getElem? (i := 10) (by decide +kernel), List.mem_of_getElem? (i := 375) (by decide +kernel), List.mem_of_getElem? (i := 376) (by decide +kernel)⟩
theorem lw_p31 : lw_okq (⟨"LibraryCirculation", "reasonAgainstRenewing", "(I)I"⟩, 6) := ⟨⟨by decide +kernel, by decide +kernel⟩, List.mem_of_getElem? (i := 10) (by decide +kernel), List.mem_of_getElem? (i := 379) (by decide +kernel), List.mem_of_getElem? (i := 380) (by decide +kernel)⟩
def lw_privs_2 : List (MethodName × Nat) := [(⟨"LibraryCirculation", "removeHold", "(I)V"⟩, 6), (⟨"LibraryCirculation", "endClaims", "()V"⟩, 6), (⟨"LibraryCirculation", "becomeLost", "(I)V"⟩, 6), (⟨"LibraryCirculation", "fineOf", "(I)I"⟩, 6), (⟨"LibraryCirculation", "enter", "(IIII)V"⟩, 6), (⟨"LibraryCirculation", "lendOut", "(II)I"⟩, 6), (⟨"LibraryCirculation", "reasonAgainstLending", "(II)I"⟩, 6), (⟨"LibraryCirculation", "isPatron", "(I)Z"⟩, 6), (⟨"LibraryCirculation", "owesTheLimit", "(I)Z"⟩, 6), (⟨"LibraryCirculation", "loanCount", "(I)I"⟩, 6), (⟨"LibraryCirculation", "isAt", "(III)Z"⟩, 6), (⟨"LibraryCirculation", "canBeTakenBy", "(II)Z"⟩, 6), (⟨"LibraryCirculation", "takeBack", "(II)I"⟩, 6), (⟨"LibraryCirculation", "isWithPatron", "(I)Z"⟩, 6), (⟨"LibraryCirculation", "renewLoan", "(I)I"⟩, 6), (⟨"LibraryCirculation", "reasonAgainstRenewing", "(I)I"⟩, 6)]
theorem lw_r2 : ∀ q ∈ lw_privs_2, lw_okq q := List.forall_mem_cons.mpr ⟨lw_p16, List.forall_mem_cons.mpr ⟨lw_p17, List.forall_mem_cons.mpr ⟨lw_p18, List.forall_mem_cons.mpr ⟨lw_p19, List.forall_mem_cons.mpr ⟨lw_p20, List.forall_mem_cons.mpr ⟨lw_p21, List.forall_mem_cons.mpr ⟨lw_p22, List.forall_mem_cons.mpr ⟨lw_p23, List.forall_mem_cons.mpr ⟨lw_p24, List.forall_mem_cons.mpr ⟨lw_p25, List.forall_mem_cons.mpr ⟨lw_p26, List.forall_mem_cons.mpr ⟨lw_p27, List.forall_mem_cons.mpr ⟨lw_p28, List.forall_mem_cons.mpr ⟨lw_p29, List.forall_mem_cons.mpr ⟨lw_p30, List.forall_mem_cons.mpr ⟨lw_p31, fun _ h => absurd h List.not_mem_nil⟩⟩⟩⟩⟩⟩⟩⟩⟩⟩⟩⟩⟩⟩⟩⟩
theorem lw_p32 : lw_okq (⟨"LibraryCirculation", "reasonAgainstClaiming", "(I)I"⟩, 6) := ⟨⟨by decide +kernel, by decide +kernel⟩, List.mem_of_getElem? (i := 10) (by decide +kernel), List.mem_of_getElem? (i := 387) (by decide +kernel), List.mem_of_getElem? (i := 388) (by decide +kernel)⟩
theorem lw_p33 : lw_okq (⟨"LibraryCirculation", "reasonAgainstLosing", "(I)I"⟩, 6) := ⟨⟨by decide +kernel, by decide +kernel⟩, List.mem_of_getElem? (i := 10) (by decide +kernel), List.mem_of_getElem? (i := 395) (by decide +kernel), List.mem_of_getElem? (i := 396) (by decide +kernel)⟩
theorem lw_p34 : lw_okq (⟨"LibraryCirculation", "makeHold", "(III)I"⟩, 6) := ⟨⟨by decide +kernel, by decide +kernel⟩, List.mem_of_getElem? (i := 10) (by decide +kernel), List.mem_of_getElem? (i := 403) (by decide +kernel), List.mem_of_getElem? (i := 404) (by decide +kernel)⟩
theorem lw_p35 : lw_okq (⟨"LibraryCirculation", "reasonAgainstHolding", "(II)I"⟩, 6) := ⟨⟨by decide +kernel, by decide +kernel⟩, List.mem_of_getElem? (i := 10) (by decide +kernel), List.mem_of_getElem? (i := 407) (by decide +kernel), List.mem_of_getElem? (i := 408) (by decide +kernel)⟩
theorem lw_p36 : lw_okq (⟨"LibraryCirculation", "holdsOf", "(I)I"⟩, 6) := ⟨⟨by decide +kernel, by decide +kernel⟩, List.mem_of_getElem? (i := 10) (by decide +kernel), List.mem_of_getElem? (i := 411) (by decide +kernel), List.mem_of_getElem? (i := 412) (by decide +kernel)⟩
theorem lw_p37 : lw_okq (⟨"LibraryCirculation", "hasLoanOf", "(II)Z"⟩, 6) := ⟨⟨by decide +kernel, by decide +kernel⟩, List.mem_of_getElem? (i := 10) (by decide +kernel), List.mem_of_getElem? (i := 415) (by decide +kernel), List.mem_of_getElem? (i := 416) (by decide +kernel)⟩
theorem lw_p38 : lw_okq (⟨"LibraryCirculation", "nearestOnShelf", "(II)I"⟩, 6) := ⟨⟨by decide +kernel, by decide +kernel⟩, List.mem_of_getElem? (i := 10) (by decide +kernel), List.mem_of_getElem? (i := 419) (by decide +kernel), List.mem_of_getElem? (i := 420) (by decide +kernel)⟩
theorem lw_p39 : lw_okq (⟨"LibraryCirculation", "recallFor", "(I)V"⟩, 6) := ⟨⟨by decide +kernel, by decide +kernel⟩, List.mem_of_getElem? (i := 10) (by decide +kernel), List.mem_of_getElem? (i := 423) (by decide +kernel), List.mem_of_getElem? (i := 424) (by decide +kernel)⟩
theorem lw_p40 : lw_okq (⟨"LibraryCirculation", "earliestNotRecalled", "(I)I"⟩, 6) := ⟨⟨by decide +kernel, by decide +kernel⟩, List.mem_of_getElem? (i := 10) (by decide +kernel), List.mem_of_getElem? (i := 427) (by decide +kernel), List.mem_of_getElem? (i := 428) (by decide +kernel)⟩
theorem lw_p41 : lw_okq (⟨"LibraryCirculation", "waitingBefore", "(II)I"⟩, 6) := ⟨⟨by decide +kernel, by decide +kernel⟩, List.mem_of_getElem? (i := 10) (by decide +kernel), List.mem_of_getElem? (i := 433) (by decide +kernel), List.mem_of_getElem? (i := 434) (by decide +kernel)⟩
theorem lw_p42 : lw_okq (⟨"LibraryCirculation", "dropHold", "(II)I"⟩, 6) := ⟨⟨by decide +kernel, by decide +kernel⟩, List.mem_of_getElem? (i := 10) (by decide +kernel), List.mem_of_getElem? (i := 441) (by decide +kernel), List.mem_of_getElem? (i := 442) (by decide +kernel)⟩
theorem lw_p43 : lw_okq (⟨"LibraryCirculation", "holdsBefore", "(II)I"⟩, 6) := ⟨⟨by decide +kernel, by decide +kernel⟩, List.mem_of_getElem? (i := 10) (by decide +kernel), List.mem_of_getElem? (i := 445) (by decide +kernel), List.mem_of_getElem? (i := 446) (by decide +kernel)⟩
theorem lw_p44 : lw_okq (⟨"LibraryCirculation", "expectedDay", "(II)I"⟩, 6) := ⟨⟨by decide +kernel, by decide +kernel⟩, List.mem_of_getElem? (i := 10) (by decide +kernel), List.mem_of_getElem? (i := 473) (by decide +kernel), List.mem_of_getElem? (i := 474) (by decide +kernel)⟩
theorem lw_p45 : lw_okq (⟨"LibraryCirculation", "expectedBefore", "(III)I"⟩, 6) := ⟨⟨by decide +kernel, by decide +kernel⟩, List.mem_of_getElem? (i := 10) (by decide +kernel), List.mem_of_getElem? (i := 477) (by decide +kernel), List.mem_of_getElem? (i := 478) (by decide +kernel)⟩
theorem lw_p46 : lw_okq (⟨"LibraryCirculation", "overdueCount", "(I)I"⟩, 6) := ⟨⟨by decide +kernel, by decide +kernel⟩, List.mem_of_getElem? (i := 10) (by decide +kernel), List.mem_of_getElem? (i := 500) (by decide +kernel), List.mem_of_getElem? (i := 501) (by decide +kernel)⟩
theorem lw_p47 : lw_okq (⟨"LibraryCirculation", "nextByDay", "(III)I"⟩, 6) := ⟨⟨by decide +kernel, by decide +kernel⟩, List.mem_of_getElem? (i := 10) (by decide +kernel), List.mem_of_getElem? (i := 508) (by decide +kernel), List.mem_of_getElem? (i := 509) (by decide +kernel)⟩
def lw_privs_3 : List (MethodName × Nat) := [(⟨"LibraryCirculation", "reasonAgainstClaiming", "(I)I"⟩, 6), (⟨"LibraryCirculation", "reasonAgainstLosing", "(I)I"⟩, 6), (⟨"LibraryCirculation", "makeHold", "(III)I"⟩, 6), (⟨"LibraryCirculation", "reasonAgainstHolding", "(II)I"⟩, 6), (⟨"LibraryCirculation", "holdsOf", "(I)I"⟩, 6), (⟨"LibraryCirculation", "hasLoanOf", "(II)Z"⟩, 6), (⟨"LibraryCirculation", "nearestOnShelf", "(II)I"⟩, 6), (⟨"LibraryCirculation", "recallFor", "(I)V"⟩, 6), (⟨"LibraryCirculation", "earliestNotRecalled", "(I)I"⟩, 6), (⟨"LibraryCirculation", "waitingBefore", "(II)I"⟩, 6), (⟨"LibraryCirculation", "dropHold", "(II)I"⟩, 6), (⟨"LibraryCirculation", "holdsBefore", "(II)I"⟩, 6), (⟨"LibraryCirculation", "expectedDay", "(II)I"⟩, 6), (⟨"LibraryCirculation", "expectedBefore", "(III)I"⟩, 6), (⟨"LibraryCirculation", "overdueCount", "(I)I"⟩, 6), (⟨"LibraryCirculation", "nextByDay", "(III)I"⟩, 6)]
theorem lw_r3 : ∀ q ∈ lw_privs_3, lw_okq q := List.forall_mem_cons.mpr ⟨lw_p32, List.forall_mem_cons.mpr ⟨lw_p33, List.forall_mem_cons.mpr ⟨lw_p34, List.forall_mem_cons.mpr ⟨lw_p35, List.forall_mem_cons.mpr ⟨lw_p36, List.forall_mem_cons.mpr ⟨lw_p37, List.forall_mem_cons.mpr ⟨lw_p38, List.forall_mem_cons.mpr ⟨lw_p39, List.forall_mem_cons.mpr ⟨lw_p40, List.forall_mem_cons.mpr ⟨lw_p41, List.forall_mem_cons.mpr ⟨lw_p42, List.forall_mem_cons.mpr ⟨lw_p43, List.forall_mem_cons.mpr ⟨lw_p44, List.forall_mem_cons.mpr ⟨lw_p45, List.forall_mem_cons.mpr ⟨lw_p46, List.forall_mem_cons.mpr ⟨lw_p47, fun _ h => absurd h List.not_mem_nil⟩⟩⟩⟩⟩⟩⟩⟩⟩⟩⟩⟩⟩⟩⟩⟩
theorem lw_p48 : lw_okq (⟨"LibraryCirculation", "countBefore", "(III)I"⟩, 6) := ⟨⟨by decide +kernel, by decide +kernel⟩, List.mem_of_getElem? (i := 10) (by decide +kernel), List.mem_of_getElem? (i := 512) (by decide +kernel), List.mem_of_getElem? (i := 513) (by decide +kernel)⟩
theorem lw_p49 : lw_okq (⟨"LibraryCirculation", "credit", "(III)I"⟩, 6) := ⟨⟨by decide +kernel, by decide +kernel⟩, List.mem_of_getElem? (i := 10) (by decide +kernel), List.mem_of_getElem? (i := 524) (by decide +kernel), List.mem_of_getElem? (i := 525) (by decide +kernel)⟩
theorem lw_p50 : lw_okq (⟨"LibraryCirculation$CommandText", "readCommand", "()Z"⟩, 4) := ⟨⟨by decide +kernel, by decide +kernel⟩, List.mem_of_getElem? (i := 102) (by decide +kernel), List.mem_of_getElem? (i := 573) (by decide +kernel), List.mem_of_getElem? (i := 574) (by decide +kernel)⟩
theorem lw_p51 : lw_okq (⟨"LibraryCirculation$CommandText", "letterAt", "(I)I"⟩, 4) := ⟨⟨by decide +kernel, by decide +kernel⟩, List.mem_of_getElem? (i := 102) (by decide +kernel), List.mem_of_getElem? (i := 577) (by decide +kernel), List.mem_of_getElem? (i := 578) (by decide +kernel)⟩
theorem lw_p52 : lw_okq (⟨"LibraryCirculation$CommandText", "readNumber", "(II)Z"⟩, 4) := ⟨⟨by decide +kernel, by decide +kernel⟩, List.mem_of_getElem? (i := 102) (by decide +kernel), List.mem_of_getElem? (i := 586) (by decide +kernel), List.mem_of_getElem? (i := 587) (by decide +kernel)⟩
theorem lw_p53 : lw_okq (⟨"LibraryCirculation", "runCommand", "(I)I"⟩, 6) := ⟨⟨by decide +kernel, by decide +kernel⟩, List.mem_of_getElem? (i := 10) (by decide +kernel), List.mem_of_getElem? (i := 606) (by decide +kernel), List.mem_of_getElem? (i := 607) (by decide +kernel)⟩
theorem lw_p54 : lw_okq (⟨"LibraryCirculationModel", "keeps", "()V"⟩, 11) := ⟨⟨by decide +kernel, by decide +kernel⟩, List.mem_of_getElem? (i := 643) (by decide +kernel), List.mem_of_getElem? (i := 696) (by decide +kernel), List.mem_of_getElem? (i := 697) (by decide +kernel)⟩
theorem lw_p55 : lw_okq (⟨"LibraryCirculationModel", "puts", "(III)V"⟩, 11) := ⟨⟨by decide +kernel, by decide +kernel⟩, List.mem_of_getElem? (i := 643) (by decide +kernel), List.mem_of_getElem? (i := 703) (by decide +kernel), List.mem_of_getElem? (i := 704) (by decide +kernel)⟩
theorem lw_p56 : lw_okq (⟨"LibraryCirculationModel", "frees", "(II)V"⟩, 11) := ⟨⟨by decide +kernel, by decide +kernel⟩, List.mem_of_getElem? (i := 643) (by decide +kernel), List.mem_of_getElem? (i := 707) (by decide +kernel), List.mem_of_getElem? (i := 708) (by decide +kernel)⟩
theorem lw_p57 : lw_okq (⟨"LibraryCirculationModel", "of", "(II)I"⟩, 11) := ⟨⟨by decide +kernel, by decide +kernel⟩, List.mem_of_getElem? (i := 643) (by decide +kernel), List.mem_of_getElem? (i := 711) (by decide +kernel), List.mem_of_getElem? (i := 712) (by decide +kernel)⟩
theorem lw_p58 : lw_okq (⟨"LibraryCirculationModel", "firstWaiting", "(I)I"⟩, 11) := ⟨⟨by decide +kernel, by decide +kernel⟩, List.mem_of_getElem? (i := 643) (by decide +kernel), List.mem_of_getElem? (i := 715) (by decide +kernel), List.mem_of_getElem? (i := 716) (by decide +kernel)⟩
theorem lw_p59 : lw_okq (⟨"LibraryCirculationModel", "hold", "(II)I"⟩, 11) := ⟨⟨by decide +kernel, by decide +kernel⟩, List.mem_of_getElem? (i := 643) (by decide +kernel), List.mem_of_getElem? (i := 719) (by decide +kernel), List.mem_of_getElem? (i := 720) (by decide +kernel)⟩
theorem lw_p60 : lw_okq (⟨"LibraryCirculationModel", "assigns", "(III)V"⟩, 11) := ⟨⟨by decide +kernel, by decide +kernel⟩, List.mem_of_getElem? (i := 643) (by decide +kernel), List.mem_of_getElem? (i := 723) (by decide +kernel), List.mem_of_getElem? (i := 724) (by decide +kernel)⟩
theorem lw_p61 : lw_okq (⟨"LibraryCirculationModel", "turns", "(IIII)V"⟩, 11) := ⟨⟨by decide +kernel, by decide +kernel⟩, List.mem_of_getElem? (i := 643) (by decide +kernel), List.mem_of_getElem? (i := 727) (by decide +kernel), List.mem_of_getElem? (i := 728) (by decide +kernel)⟩
theorem lw_p62 : lw_okq (⟨"LibraryCirculationModel", "made", "(I)I"⟩, 11) := ⟨⟨by decide +kernel, by decide +kernel⟩, List.mem_of_getElem? (i := 643) (by decide +kernel), List.mem_of_getElem? (i := 732) (by decide +kernel), List.mem_of_getElem? (i := 733) (by decide +kernel)⟩
theorem lw_p63 : lw_okq (⟨"LibraryCirculationModel", "isCopy", "(I)Z"⟩, 11) := ⟨⟨by decide +kernel, by decide +kernel⟩, List.mem_of_getElem? (i := 643) (by decide +kernel), List.mem_of_getElem? (i := 759) (by decide +kernel), List.mem_of_getElem? (i := 760) (by decide +kernel)⟩
def lw_privs_4 : List (MethodName × Nat) := [(⟨"LibraryCirculation", "countBefore", "(III)I"⟩, 6), (⟨"LibraryCirculation", "credit", "(III)I"⟩, 6), (⟨"LibraryCirculation$CommandText", "readCommand", "()Z"⟩, 4), (⟨"LibraryCirculation$CommandText", "letterAt", "(I)I"⟩, 4), (⟨"LibraryCirculation$CommandText", "readNumber", "(II)Z"⟩, 4), (⟨"LibraryCirculation", "runCommand", "(I)I"⟩, 6), (⟨"LibraryCirculationModel", "keeps", "()V"⟩, 11), (⟨"LibraryCirculationModel", "puts", "(III)V"⟩, 11), (⟨"LibraryCirculationModel", "frees", "(II)V"⟩, 11), (⟨"LibraryCirculationModel", "of", "(II)I"⟩, 11), (⟨"LibraryCirculationModel", "firstWaiting", "(I)I"⟩, 11), (⟨"LibraryCirculationModel", "hold", "(II)I"⟩, 11), (⟨"LibraryCirculationModel", "assigns", "(III)V"⟩, 11), (⟨"LibraryCirculationModel", "turns", "(IIII)V"⟩, 11), (⟨"LibraryCirculationModel", "made", "(I)I"⟩, 11), (⟨"LibraryCirculationModel", "isCopy", "(I)Z"⟩, 11)]
theorem lw_r4 : ∀ q ∈ lw_privs_4, lw_okq q := List.forall_mem_cons.mpr ⟨lw_p48, List.forall_mem_cons.mpr ⟨lw_p49, List.forall_mem_cons.mpr ⟨lw_p50, List.forall_mem_cons.mpr ⟨lw_p51, List.forall_mem_cons.mpr ⟨lw_p52, List.forall_mem_cons.mpr ⟨lw_p53, List.forall_mem_cons.mpr ⟨lw_p54, List.forall_mem_cons.mpr ⟨lw_p55, List.forall_mem_cons.mpr ⟨lw_p56, List.forall_mem_cons.mpr ⟨lw_p57, List.forall_mem_cons.mpr ⟨lw_p58, List.forall_mem_cons.mpr ⟨lw_p59, List.forall_mem_cons.mpr ⟨lw_p60, List.forall_mem_cons.mpr ⟨lw_p61, List.forall_mem_cons.mpr ⟨lw_p62, List.forall_mem_cons.mpr ⟨lw_p63, fun _ h => absurd h List.not_mem_nil⟩⟩⟩⟩⟩⟩⟩⟩⟩⟩⟩⟩⟩⟩⟩⟩
theorem lw_p64 : lw_okq (⟨"LibraryCirculationModel", "holdOf", "(I)I"⟩, 11) := ⟨⟨by decide +kernel, by decide +kernel⟩, List.mem_of_getElem? (i := 643) (by decide +kernel), List.mem_of_getElem? (i := 771) (by decide +kernel), List.mem_of_getElem? (i := 772) (by decide +kernel)⟩
theorem lw_p65 : lw_okq (⟨"LibraryCirculationModel", "passes", "(I)I"⟩, 11) := ⟨⟨by decide +kernel, by decide +kernel⟩, List.mem_of_getElem? (i := 643) (by decide +kernel), List.mem_of_getElem? (i := 783) (by decide +kernel), List.mem_of_getElem? (i := 784) (by decide +kernel)⟩
theorem lw_p66 : lw_okq (⟨"LibraryCirculationModel", "arrive", "()V"⟩, 11) := ⟨⟨by decide +kernel, by decide +kernel⟩, List.mem_of_getElem? (i := 643) (by decide +kernel), List.mem_of_getElem? (i := 787) (by decide +kernel), List.mem_of_getElem? (i := 788) (by decide +kernel)⟩
theorem lw_p67 : lw_okq (⟨"LibraryCirculationModel", "expire", "()V"⟩, 11) := ⟨⟨by decide +kernel, by decide +kernel⟩, List.mem_of_getElem? (i := 643) (by decide +kernel), List.mem_of_getElem? (i := 791) (by decide +kernel), List.mem_of_getElem? (i := 792) (by decide +kernel)⟩
theorem lw_p68 : lw_okq (⟨"LibraryCirculationModel", "removes", "(I)V"⟩, 11) := ⟨⟨by decide +kernel, by decide +kernel⟩, List.mem_of_getElem? (i := 643) (by decide +kernel), List.mem_of_getElem? (i := 795) (by decide +kernel), List.mem_of_getElem? (i := 796) (by decide +kernel)⟩
theorem lw_p69 : lw_okq (⟨"LibraryCirculationModel", "loses", "(I)V"⟩, 11) := ⟨⟨by decide +kernel, by decide +kernel⟩, List.mem_of_getElem? (i := 643) (by decide +kernel), List.mem_of_getElem? (i := 799) (by decide +kernel), List.mem_of_getElem? (i := 800) (by decide +kernel)⟩
theorem lw_p70 : lw_okq (⟨"LibraryCirculationModel", "late", "(I)I"⟩, 11) := ⟨⟨by decide +kernel, by decide +kernel⟩, List.mem_of_getElem? (i := 643) (by decide +kernel), List.mem_of_getElem? (i := 803) (by decide +kernel), List.mem_of_getElem? (i := 804) (by decide +kernel)⟩
theorem lw_p71 : lw_okq (⟨"LibraryCirculationModel", "owes", "(IIII)V"⟩, 11) := ⟨⟨by decide +kernel, by decide +kernel⟩, List.mem_of_getElem? (i := 643) (by decide +kernel), List.mem_of_getElem? (i := 809) (by decide +kernel), List.mem_of_getElem? (i := 810) (by decide +kernel)⟩
theorem lw_p72 : lw_okq (⟨"LibraryCirculationModel", "lends", "(II)I"⟩, 11) := ⟨⟨by decide +kernel, by decide +kernel⟩, List.mem_of_getElem? (i := 643) (by decide +kernel), List.mem_of_getElem? (i := 817) (by decide +kernel), List.mem_of_getElem? (i := 818) (by decide +kernel)⟩
theorem lw_p73 : lw_okq (⟨"LibraryCirculationModel", "isPatron", "(I)Z"⟩, 11) := ⟨⟨by decide +kernel, by decide +kernel⟩, List.mem_of_getElem? (i := 643) (by decide +kernel), List.mem_of_getElem? (i := 821) (by decide +kernel), List.mem_of_getElem? (i := 822) (by decide +kernel)⟩
theorem lw_p74 : lw_okq (⟨"LibraryCirculationModel", "reasonToLend", "(II)I"⟩, 11) := ⟨⟨by decide +kernel, by decide +kernel⟩, List.mem_of_getElem? (i := 643) (by decide +kernel), List.mem_of_getElem? (i := 825) (by decide +kernel), List.mem_of_getElem? (i := 826) (by decide +kernel)⟩
theorem lw_p75 : lw_okq (⟨"LibraryCirculationModel", "isBarred", "(I)Z"⟩, 11) := ⟨⟨by decide +kernel, by decide +kernel⟩, List.mem_of_getElem? (i := 643) (by decide +kernel), List.mem_of_getElem? (i := 829) (by decide +kernel), List.mem_of_getElem? (i := 830) (by decide +kernel)⟩
theorem lw_p76 : lw_okq (⟨"LibraryCirculationModel", "loans", "(I)I"⟩, 11) := ⟨⟨by decide +kernel, by decide +kernel⟩, List.mem_of_getElem? (i := 643) (by decide +kernel), List.mem_of_getElem? (i := 833) (by decide +kernel), List.mem_of_getElem? (i := 834) (by decide +kernel)⟩
theorem lw_p77 : lw_okq (⟨"LibraryCirculationModel", "bringsBack", "(II)I"⟩, 11) := ⟨⟨by decide +kernel, by decide +kernel⟩, List.mem_of_getElem? (i := 643) (by decide +kernel), List.mem_of_getElem? (i := 841) (by decide +kernel), List.mem_of_getElem? (i := 842) (by decide +kernel)⟩
theorem lw_p78 : lw_okq (⟨"LibraryCirculationModel", "renews", "(I)I"⟩, 11) := ⟨⟨by decide +kernel, by decide +kernel⟩, List.mem_of_getElem? (i := 643) (by decide +kernel), List.mem_of_getElem? (i := 849) (by decide +kernel), List.mem_of_getElem? (i := 850) (by decide +kernel)⟩
theorem lw_p79 : lw_okq (⟨"LibraryCirculationModel", "reasonToRenew", "(I)I"⟩, 11) := ⟨⟨by decide +kernel, by decide +kernel⟩, List.mem_of_getElem? (i := 643) (by decide +kernel), List.mem_of_getElem? (i := 853) (by decide +kernel), List.mem_of_getElem? (i := 854) (by decide +kernel)⟩
def lw_privs_5 : List (MethodName × Nat) := [(⟨"LibraryCirculationModel", "holdOf", "(I)I"⟩, 11), (⟨"LibraryCirculationModel", "passes", "(I)I"⟩, 11), (⟨"LibraryCirculationModel", "arrive", "()V"⟩, 11), (⟨"LibraryCirculationModel", "expire", "()V"⟩, 11), (⟨"LibraryCirculationModel", "removes", "(I)V"⟩, 11), (⟨"LibraryCirculationModel", "loses", "(I)V"⟩, 11), (⟨"LibraryCirculationModel", "late", "(I)I"⟩, 11), (⟨"LibraryCirculationModel", "owes", "(IIII)V"⟩, 11), (⟨"LibraryCirculationModel", "lends", "(II)I"⟩, 11), (⟨"LibraryCirculationModel", "isPatron", "(I)Z"⟩, 11), (⟨"LibraryCirculationModel", "reasonToLend", "(II)I"⟩, 11), (⟨"LibraryCirculationModel", "isBarred", "(I)Z"⟩, 11), (⟨"LibraryCirculationModel", "loans", "(I)I"⟩, 11), (⟨"LibraryCirculationModel", "bringsBack", "(II)I"⟩, 11), (⟨"LibraryCirculationModel", "renews", "(I)I"⟩, 11), (⟨"LibraryCirculationModel", "reasonToRenew", "(I)I"⟩, 11)]
theorem lw_r5 : ∀ q ∈ lw_privs_5, lw_okq q := List.forall_mem_cons.mpr ⟨lw_p64, List.forall_mem_cons.mpr ⟨lw_p65, List.forall_mem_cons.mpr ⟨lw_p66, List.forall_mem_cons.mpr ⟨lw_p67, List.forall_mem_cons.mpr ⟨lw_p68, List.forall_mem_cons.mpr ⟨lw_p69, List.forall_mem_cons.mpr ⟨lw_p70, List.forall_mem_cons.mpr ⟨lw_p71, List.forall_mem_cons.mpr ⟨lw_p72, List.forall_mem_cons.mpr ⟨lw_p73, List.forall_mem_cons.mpr ⟨lw_p74, List.forall_mem_cons.mpr ⟨lw_p75, List.forall_mem_cons.mpr ⟨lw_p76, List.forall_mem_cons.mpr ⟨lw_p77, List.forall_mem_cons.mpr ⟨lw_p78, List.forall_mem_cons.mpr ⟨lw_p79, fun _ h => absurd h List.not_mem_nil⟩⟩⟩⟩⟩⟩⟩⟩⟩⟩⟩⟩⟩⟩⟩⟩
theorem lw_p80 : lw_okq (⟨"LibraryCirculationModel", "waitingFor", "(I)I"⟩, 11) := ⟨⟨by decide +kernel, by decide +kernel⟩, List.mem_of_getElem? (i := 643) (by decide +kernel), List.mem_of_getElem? (i := 857) (by decide +kernel), List.mem_of_getElem? (i := 858) (by decide +kernel)⟩
theorem lw_p81 : lw_okq (⟨"LibraryCirculationModel", "reasonToClaim", "(I)I"⟩, 11) := ⟨⟨by decide +kernel, by decide +kernel⟩, List.mem_of_getElem? (i := 643) (by decide +kernel), List.mem_of_getElem? (i := 865) (by decide +kernel), List.mem_of_getElem? (i := 866) (by decide +kernel)⟩
theorem lw_p82 : lw_okq (⟨"LibraryCirculationModel", "reasonToLose", "(I)I"⟩, 11) := ⟨⟨by decide +kernel, by decide +kernel⟩, List.mem_of_getElem? (i := 643) (by decide +kernel), List.mem_of_getElem? (i := 873) (by decide +kernel), List.mem_of_getElem? (i := 874) (by decide +kernel)⟩
theorem lw_p83 : lw_okq (⟨"LibraryCirculationModel", "laysHold", "(III)I"⟩, 11) := ⟨⟨by decide +kernel, by decide +kernel⟩, List.mem_of_getElem? (i := 643) (by decide +kernel), List.mem_of_getElem? (i := 881) (by decide +kernel), List.mem_of_getElem? (i := 882) (by decide +kernel)⟩
theorem lw_p84 : lw_okq (⟨"LibraryCirculationModel", "reasonToHold", "(II)I"⟩, 11) := ⟨⟨by decide +kernel, by decide +kernel⟩, List.mem_of_getElem? (i := 643) (by decide +kernel), List.mem_of_getElem? (i := 885) (by decide +kernel), List.mem_of_getElem? (i := 886) (by decide +kernel)⟩
theorem lw_p85 : lw_okq (⟨"LibraryCirculationModel", "holdBy", "(II)I"⟩, 11) := ⟨⟨by decide +kernel, by decide +kernel⟩, List.mem_of_getElem? (i := 643) (by decide +kernel), List.mem_of_getElem? (i := 889) (by decide +kernel), List.mem_of_getElem? (i := 890) (by decide +kernel)⟩
theorem lw_p86 : lw_okq (⟨"LibraryCirculationModel", "nearest", "(II)I"⟩, 11) := ⟨⟨by decide +kernel, by decide +kernel⟩, List.mem_of_getElem? (i := 643) (by decide +kernel), List.mem_of_getElem? (i := 893) (by decide +kernel), List.mem_of_getElem? (i := 894) (by decide +kernel)⟩
theorem lw_p87 : lw_okq (⟨"LibraryCirculationModel", "recalls", "(I)V"⟩, 11) := ⟨⟨by decide +kernel, by decide +kernel⟩, List.mem_of_getElem? (i := 643) (by decide +kernel), List.mem_of_getElem? (i := 897) (by decide +kernel), List.mem_of_getElem? (i := 898) (by decide +kernel)⟩
theorem lw_p88 : lw_okq (⟨"LibraryCirculationModel", "cancels", "(II)I"⟩, 11) := ⟨⟨by decide +kernel, by decide +kernel⟩, List.mem_of_getElem? (i := 643) (by decide +kernel), List.mem_of_getElem? (i := 906) (by decide +kernel), List.mem_of_getElem? (i := 907) (by decide +kernel)⟩
theorem lw_p89 : lw_okq (⟨"LibraryCirculationModel", "holds", "(I)I"⟩, 11) := ⟨⟨by decide +kernel, by decide +kernel⟩, List.mem_of_getElem? (i := 643) (by decide +kernel), List.mem_of_getElem? (i := 910) (by decide +kernel), List.mem_of_getElem? (i := 911) (by decide +kernel)⟩
theorem lw_p90 : lw_okq (⟨"LibraryCirculationModel", "freeDay", "(II)I"⟩, 11) := ⟨⟨by decide +kernel, by decide +kernel⟩, List.mem_of_getElem? (i := 643) (by decide +kernel), List.mem_of_getElem? (i := 938) (by decide +kernel), List.mem_of_getElem? (i := 939) (by decide +kernel)⟩
theorem lw_p91 : lw_okq (⟨"LibraryCirculationModel", "holdsOf", "(I)I"⟩, 11) := ⟨⟨by decide +kernel, by decide +kernel⟩, List.mem_of_getElem? (i := 643) (by decide +kernel), List.mem_of_getElem? (i := 958) (by decide +kernel), List.mem_of_getElem? (i := 959) (by decide +kernel)⟩
theorem lw_p92 : lw_okq (⟨"LibraryCirculationModel", "overdue", "(I)I"⟩, 11) := ⟨⟨by decide +kernel, by decide +kernel⟩, List.mem_of_getElem? (i := 643) (by decide +kernel), List.mem_of_getElem? (i := 962) (by decide +kernel), List.mem_of_getElem? (i := 963) (by decide +kernel)⟩
theorem lw_p93 : lw_okq (⟨"LibraryCirculationModel", "byDate", "(III)I"⟩, 11) := ⟨⟨by decide +kernel, by decide +kernel⟩, List.mem_of_getElem? (i := 643) (by decide +kernel), List.mem_of_getElem? (i := 970) (by decide +kernel), List.mem_of_getElem? (i := 971) (by decide +kernel)⟩
theorem lw_p94 : lw_okq (⟨"LibraryCirculationModel", "lessens", "(III)I"⟩, 11) := ⟨⟨by decide +kernel, by decide +kernel⟩, List.mem_of_getElem? (i := 643) (by decide +kernel), List.mem_of_getElem? (i := 982) (by decide +kernel), List.mem_of_getElem? (i := 983) (by decide +kernel)⟩
theorem lw_p95 : lw_okq (⟨"LibraryCirculationModel", "command", "()I"⟩, 11) := ⟨⟨by decide +kernel, by decide +kernel⟩, List.mem_of_getElem? (i := 643) (by decide +kernel), List.mem_of_getElem? (i := 1019) (by decide +kernel), List.mem_of_getElem? (i := 1020) (by decide +kernel)⟩
def lw_privs_6 : List (MethodName × Nat) := [(⟨"LibraryCirculationModel", "waitingFor", "(I)I"⟩, 11), (⟨"LibraryCirculationModel", "reasonToClaim", "(I)I"⟩, 11), (⟨"LibraryCirculationModel", "reasonToLose", "(I)I"⟩, 11), (⟨"LibraryCirculationModel", "laysHold", "(III)I"⟩, 11), (⟨"LibraryCirculationModel", "reasonToHold", "(II)I"⟩, 11), (⟨"LibraryCirculationModel", "holdBy", "(II)I"⟩, 11), (⟨"LibraryCirculationModel", "nearest", "(II)I"⟩, 11), (⟨"LibraryCirculationModel", "recalls", "(I)V"⟩, 11), (⟨"LibraryCirculationModel", "cancels", "(II)I"⟩, 11), (⟨"LibraryCirculationModel", "holds", "(I)I"⟩, 11), (⟨"LibraryCirculationModel", "freeDay", "(II)I"⟩, 11), (⟨"LibraryCirculationModel", "holdsOf", "(I)I"⟩, 11), (⟨"LibraryCirculationModel", "overdue", "(I)I"⟩, 11), (⟨"LibraryCirculationModel", "byDate", "(III)I"⟩, 11), (⟨"LibraryCirculationModel", "lessens", "(III)I"⟩, 11), (⟨"LibraryCirculationModel", "command", "()I"⟩, 11)]
theorem lw_r6 : ∀ q ∈ lw_privs_6, lw_okq q := List.forall_mem_cons.mpr ⟨lw_p80, List.forall_mem_cons.mpr ⟨lw_p81, List.forall_mem_cons.mpr ⟨lw_p82, List.forall_mem_cons.mpr ⟨lw_p83, List.forall_mem_cons.mpr ⟨lw_p84, List.forall_mem_cons.mpr ⟨lw_p85, List.forall_mem_cons.mpr ⟨lw_p86, List.forall_mem_cons.mpr ⟨lw_p87, List.forall_mem_cons.mpr ⟨lw_p88, List.forall_mem_cons.mpr ⟨lw_p89, List.forall_mem_cons.mpr ⟨lw_p90, List.forall_mem_cons.mpr ⟨lw_p91, List.forall_mem_cons.mpr ⟨lw_p92, List.forall_mem_cons.mpr ⟨lw_p93, List.forall_mem_cons.mpr ⟨lw_p94, List.forall_mem_cons.mpr ⟨lw_p95, fun _ h => absurd h List.not_mem_nil⟩⟩⟩⟩⟩⟩⟩⟩⟩⟩⟩⟩⟩⟩⟩⟩
theorem lw_p96 : lw_okq (⟨"LibraryCirculationModel", "sign", "()I"⟩, 11) := ⟨⟨by decide +kernel, by decide +kernel⟩, List.mem_of_getElem? (i := 643) (by decide +kernel), List.mem_of_getElem? (i := 1023) (by decide +kernel), List.mem_of_getElem? (i := 1024) (by decide +kernel)⟩
theorem lw_p97 : lw_okq (⟨"LibraryCirculationModel", "number", "()I"⟩, 11) := ⟨⟨by decide +kernel, by decide +kernel⟩, List.mem_of_getElem? (i := 643) (by decide +kernel), List.mem_of_getElem? (i := 1027) (by decide +kernel), List.mem_of_getElem? (i := 1028) (by decide +kernel)⟩
theorem lw_p98 : lw_okq (⟨"LibraryCirculationModel", "does", "(I)I"⟩, 11) := ⟨⟨by decide +kernel, by decide +kernel⟩, List.mem_of_getElem? (i := 643) (by decide +kernel), List.mem_of_getElem? (i := 1031) (by decide +kernel), List.mem_of_getElem? (i := 1032) (by decide +kernel)⟩
def lw_privs_7 : List (MethodName × Nat) := [(⟨"LibraryCirculationModel", "sign", "()I"⟩, 11), (⟨"LibraryCirculationModel", "number", "()I"⟩, 11), (⟨"LibraryCirculationModel", "does", "(I)I"⟩, 11)]
theorem lw_r7 : ∀ q ∈ lw_privs_7, lw_okq q := List.forall_mem_cons.mpr ⟨lw_p96, List.forall_mem_cons.mpr ⟨lw_p97, List.forall_mem_cons.mpr ⟨lw_p98, fun _ h => absurd h List.not_mem_nil⟩⟩⟩
def lw_privs : List (MethodName × Nat) := lw_privs_1 ++ (lw_privs_2 ++ (lw_privs_3 ++ (lw_privs_4 ++ (lw_privs_5 ++ (lw_privs_6 ++ (lw_privs_7))))))
def lw_tbl : List Cond := k2_sels lw_privs ++ tables_1
theorem lw_privs_ok : ∀ q ∈ lw_privs, lw_okq q := by
  show ∀ q ∈ lw_privs_1 ++ (lw_privs_2 ++ (lw_privs_3 ++ (lw_privs_4 ++ (lw_privs_5 ++ (lw_privs_6 ++ (lw_privs_7)))))), lw_okq q
  exact List.forall_mem_append.mpr ⟨lw_r1, List.forall_mem_append.mpr ⟨lw_r2, List.forall_mem_append.mpr ⟨lw_r3, List.forall_mem_append.mpr ⟨lw_r4, List.forall_mem_append.mpr ⟨lw_r5, List.forall_mem_append.mpr ⟨lw_r6, lw_r7⟩⟩⟩⟩⟩⟩
-- ===== end of PART A; then your names; then what follows =====
def RX0 : String := "LibraryCirculation$CommandText"
def TX0 : u_T := fun k => match k with
  | 0 => ("LibraryCirculation$CommandText", "letters", "[I", true)
  | 1 => ("LibraryCirculation$CommandText", "length", "I", false)
  | 2 => ("LibraryCirculation$CommandText", "position", "I", false)
  | _ => ("LibraryCirculation$CommandText", "commands", "LLibraryCirculation$Table;", true)
def tyX0 : Nat → FieldType := fun k => match k with
  | 0 => .array .int
  | 1 => .int
  | 2 => .int
  | _ => .object "LibraryCirculation$Table"
theorem nmX0 : ∀ a, a < 4 → ∀ b, b < 4 → a ≠ b → (TX0 a).2.1 ≠ (TX0 b).2.1 := by decide +kernel
theorem tyX0_ok : ∀ k, k < 4 → parseFieldDescriptor (TX0 k).2.2.1 = some (tyX0 k) := by decide +kernel
abbrev cX0_init : ByteArray := prog_2_method_1_code
def yX0_init : MethodName := ⟨RX0, "<init>", "()V"⟩
abbrev cX0_append : ByteArray := prog_2_method_2_code
def yX0_append : MethodName := ⟨RX0, "append", "(I)I"⟩
abbrev cX0_emptyBuffer : ByteArray := prog_2_method_3_code
def yX0_emptyBuffer : MethodName := ⟨RX0, "emptyBuffer", "()V"⟩
abbrev cX0_commandCount : ByteArray := prog_2_method_4_code
def yX0_commandCount : MethodName := ⟨RX0, "commandCount", "()I"⟩
abbrev cX0_letter : ByteArray := prog_2_method_5_code
def yX0_letter : MethodName := ⟨RX0, "letter", "(I)I"⟩
abbrev cX0_number : ByteArray := prog_2_method_6_code
def yX0_number : MethodName := ⟨RX0, "number", "(II)I"⟩
abbrev cX0_position : ByteArray := prog_2_method_7_code
def yX0_position : MethodName := ⟨RX0, "position", "()I"⟩
abbrev cX0_readAll : ByteArray := prog_2_method_8_code
def yX0_readAll : MethodName := ⟨RX0, "readAll", "()Z"⟩
abbrev cX0_readCommand : ByteArray := prog_2_method_9_code
def yX0_readCommand : MethodName := ⟨RX0, "readCommand", "()Z"⟩
abbrev cX0_readNumber : ByteArray := prog_2_method_10_code
def yX0_readNumber : MethodName := ⟨RX0, "readNumber", "(II)Z"⟩
abbrev cX0_letterAt : ByteArray := prog_2_method_11_code
def yX0_letterAt : MethodName := ⟨RX0, "letterAt", "(I)I"⟩
abbrev cX0_isDigit : ByteArray := prog_2_method_12_code
def yX0_isDigit : MethodName := ⟨RX0, "isDigit", "(I)Z"⟩
abbrev cX0_numbersOf : ByteArray := prog_2_method_13_code
def yX0_numbersOf : MethodName := ⟨RX0, "numbersOf", "(I)I"⟩
def RX1 : String := "LibraryCirculation$History"
def TX1 : u_T := fun k => match k with
  | 0 => ("LibraryCirculation$History", "states", "[LLibraryCirculation$State;", true)
  | 1 => ("LibraryCirculation$History", "next", "I", false)
  | _ => ("LibraryCirculation$History", "size", "I", false)
def tyX1 : Nat → FieldType := fun k => match k with
  | 0 => .array (.object "LibraryCirculation$State")
  | 1 => .int
  | _ => .int
theorem nmX1 : ∀ a, a < 3 → ∀ b, b < 3 → a ≠ b → (TX1 a).2.1 ≠ (TX1 b).2.1 := by decide +kernel
theorem tyX1_ok : ∀ k, k < 3 → parseFieldDescriptor (TX1 k).2.2.1 = some (tyX1 k) := by decide +kernel
abbrev cX1_init : ByteArray := prog_3_method_1_code
def yX1_init : MethodName := ⟨RX1, "<init>", "()V"⟩
abbrev cX1_size : ByteArray := prog_3_method_2_code
def yX1_size : MethodName := ⟨RX1, "size", "()I"⟩
abbrev cX1_isEmpty : ByteArray := prog_3_method_3_code
def yX1_isEmpty : MethodName := ⟨RX1, "isEmpty", "()Z"⟩
abbrev cX1_push : ByteArray := prog_3_method_4_code
def yX1_push : MethodName := ⟨RX1, "push", "(LLibraryCirculation$State;)V"⟩
abbrev cX1_pop : ByteArray := prog_3_method_5_code
def yX1_pop : MethodName := ⟨RX1, "pop", "(LLibraryCirculation$State;)V"⟩
abbrev cX1_at : ByteArray := prog_3_method_6_code
def yX1_at : MethodName := ⟨RX1, "at", "(I)LLibraryCirculation$State;"⟩
def RX2 : String := "LibraryCirculation$State"
def TX2 : u_T := fun k => match k with
  | 0 => ("LibraryCirculation$State", "copies", "LLibraryCirculation$Table;", true)
  | 1 => ("LibraryCirculation$State", "patrons", "LLibraryCirculation$Table;", true)
  | 2 => ("LibraryCirculation$State", "holds", "LLibraryCirculation$Table;", true)
  | 3 => ("LibraryCirculation$State", "ledger", "LLibraryCirculation$Table;", true)
  | 4 => ("LibraryCirculation$State", "settings", "LLibraryCirculation$Table;", true)
  | _ => ("LibraryCirculation$State", "today", "I", false)
def tyX2 : Nat → FieldType := fun k => match k with
  | 0 => .object "LibraryCirculation$Table"
  | 1 => .object "LibraryCirculation$Table"
  | 2 => .object "LibraryCirculation$Table"
  | 3 => .object "LibraryCirculation$Table"
  | 4 => .object "LibraryCirculation$Table"
  | _ => .int
theorem nmX2 : ∀ a, a < 6 → ∀ b, b < 6 → a ≠ b → (TX2 a).2.1 ≠ (TX2 b).2.1 := by decide +kernel
theorem tyX2_ok : ∀ k, k < 6 → parseFieldDescriptor (TX2 k).2.2.1 = some (tyX2 k) := by decide +kernel
abbrev cX2_init : ByteArray := prog_4_method_1_code
def yX2_init : MethodName := ⟨RX2, "<init>", "()V"⟩
abbrev cX2_copyFrom : ByteArray := prog_4_method_2_code
def yX2_copyFrom : MethodName := ⟨RX2, "copyFrom", "(LLibraryCirculation$State;)V"⟩
def RX3 : String := "LibraryCirculation$Table"
def TX3 : u_T := fun k => match k with
  | 0 => ("LibraryCirculation$Table", "capacity", "I", true)
  | 1 => ("LibraryCirculation$Table", "columns", "I", true)
  | 2 => ("LibraryCirculation$Table", "cells", "[I", true)
  | _ => ("LibraryCirculation$Table", "size", "I", false)
def tyX3 : Nat → FieldType := fun k => match k with
  | 0 => .int
  | 1 => .int
  | 2 => .array .int
  | _ => .int
theorem nmX3 : ∀ a, a < 4 → ∀ b, b < 4 → a ≠ b → (TX3 a).2.1 ≠ (TX3 b).2.1 := by decide +kernel
theorem tyX3_ok : ∀ k, k < 4 → parseFieldDescriptor (TX3 k).2.2.1 = some (tyX3 k) := by decide +kernel
abbrev cX3_init : ByteArray := prog_5_method_1_code
def yX3_init : MethodName := ⟨RX3, "<init>", "(II)V"⟩
abbrev cX3_size : ByteArray := prog_5_method_2_code
def yX3_size : MethodName := ⟨RX3, "size", "()I"⟩
abbrev cX3_has : ByteArray := prog_5_method_3_code
def yX3_has : MethodName := ⟨RX3, "has", "(I)Z"⟩
abbrev cX3_addRow : ByteArray := prog_5_method_4_code
def yX3_addRow : MethodName := ⟨RX3, "addRow", "()I"⟩
abbrev cX3_removeRow : ByteArray := prog_5_method_5_code
def yX3_removeRow : MethodName := ⟨RX3, "removeRow", "(I)V"⟩
abbrev cX3_removeAllRows : ByteArray := prog_5_method_6_code
def yX3_removeAllRows : MethodName := ⟨RX3, "removeAllRows", "()V"⟩
abbrev cX3_get : ByteArray := prog_5_method_7_code
def yX3_get : MethodName := ⟨RX3, "get", "(II)I"⟩
abbrev cX3_put : ByteArray := prog_5_method_8_code
def yX3_put : MethodName := ⟨RX3, "put", "(III)V"⟩
abbrev cX3_overwriteWith : ByteArray := prog_5_method_9_code
def yX3_overwriteWith : MethodName := ⟨RX3, "overwriteWith", "(LLibraryCirculation$Table;)V"⟩
def RX4 : String := "LibraryCirculation"
def TX4 : u_T := fun k => match k with
  | 0 => ("LibraryCirculation", "now", "LLibraryCirculation$State;", true)
  | 1 => ("LibraryCirculation", "settled", "LLibraryCirculation$State;", true)
  | 2 => ("LibraryCirculation", "saved", "LLibraryCirculation$State;", true)
  | 3 => ("LibraryCirculation", "hasSaved", "Z", false)
  | 4 => ("LibraryCirculation", "history", "LLibraryCirculation$History;", true)
  | _ => ("LibraryCirculation", "text", "LLibraryCirculation$CommandText;", true)
def tyX4 : Nat → FieldType := fun k => match k with
  | 0 => .object "LibraryCirculation$State"
  | 1 => .object "LibraryCirculation$State"
  | 2 => .object "LibraryCirculation$State"
  | 3 => .boolean
  | 4 => .object "LibraryCirculation$History"
  | _ => .object "LibraryCirculation$CommandText"
theorem nmX4 : ∀ a, a < 6 → ∀ b, b < 6 → a ≠ b → (TX4 a).2.1 ≠ (TX4 b).2.1 := by decide +kernel
theorem tyX4_ok : ∀ k, k < 6 → parseFieldDescriptor (TX4 k).2.2.1 = some (tyX4 k) := by decide +kernel
abbrev cX4_init : ByteArray := prog_1_method_1_code
def yX4_init : MethodName := ⟨RX4, "<init>", "()V"⟩
abbrev cX4_addCopy : ByteArray := prog_1_method_2_code
def yX4_addCopy : MethodName := ⟨RX4, "addCopy", "(II)I"⟩
abbrev cX4_addPatron : ByteArray := prog_1_method_3_code
def yX4_addPatron : MethodName := ⟨RX4, "addPatron", "()I"⟩
abbrev cX4_set : ByteArray := prog_1_method_4_code
def yX4_set : MethodName := ⟨RX4, "set", "(II)I"⟩
abbrev cX4_setting : ByteArray := prog_1_method_5_code
def yX4_setting : MethodName := ⟨RX4, "setting", "(I)I"⟩
abbrev cX4_setFloating : ByteArray := prog_1_method_6_code
def yX4_setFloating : MethodName := ⟨RX4, "setFloating", "(IZ)I"⟩
abbrev cX4_copyCount : ByteArray := prog_1_method_7_code
def yX4_copyCount : MethodName := ⟨RX4, "copyCount", "(I)I"⟩
abbrev cX4_copy : ByteArray := prog_1_method_8_code
def yX4_copy : MethodName := ⟨RX4, "copy", "(II)I"⟩
abbrev cX4_day : ByteArray := prog_1_method_9_code
def yX4_day : MethodName := ⟨RX4, "day", "()I"⟩
abbrev cX4_pass : ByteArray := prog_1_method_10_code
def yX4_pass : MethodName := ⟨RX4, "pass", "(I)I"⟩
abbrev cX4_letPass : ByteArray := prog_1_method_11_code
def yX4_letPass : MethodName := ⟨RX4, "letPass", "(I)I"⟩
abbrev cX4_arriveOnThisDay : ByteArray := prog_1_method_12_code
def yX4_arriveOnThisDay : MethodName := ⟨RX4, "arriveOnThisDay", "()V"⟩
abbrev cX4_expireBeforeThisDay : ByteArray := prog_1_method_13_code
def yX4_expireBeforeThisDay : MethodName := ⟨RX4, "expireBeforeThisDay", "()V"⟩
abbrev cX4_endClaims : ByteArray := prog_1_method_14_code
def yX4_endClaims : MethodName := ⟨RX4, "endClaims", "()V"⟩
abbrev cX4_lend : ByteArray := prog_1_method_15_code
def yX4_lend : MethodName := ⟨RX4, "lend", "(II)I"⟩
abbrev cX4_lendOut : ByteArray := prog_1_method_16_code
def yX4_lendOut : MethodName := ⟨RX4, "lendOut", "(II)I"⟩
abbrev cX4_reasonAgainstLending : ByteArray := prog_1_method_17_code
def yX4_reasonAgainstLending : MethodName := ⟨RX4, "reasonAgainstLending", "(II)I"⟩
abbrev cX4_canBeTakenBy : ByteArray := prog_1_method_18_code
def yX4_canBeTakenBy : MethodName := ⟨RX4, "canBeTakenBy", "(II)Z"⟩
abbrev cX4_bringBack : ByteArray := prog_1_method_19_code
def yX4_bringBack : MethodName := ⟨RX4, "bringBack", "(II)I"⟩
abbrev cX4_takeBack : ByteArray := prog_1_method_20_code
def yX4_takeBack : MethodName := ⟨RX4, "takeBack", "(II)I"⟩
abbrev cX4_renew : ByteArray := prog_1_method_21_code
def yX4_renew : MethodName := ⟨RX4, "renew", "(I)I"⟩
abbrev cX4_renewLoan : ByteArray := prog_1_method_22_code
def yX4_renewLoan : MethodName := ⟨RX4, "renewLoan", "(I)I"⟩
abbrev cX4_reasonAgainstRenewing : ByteArray := prog_1_method_23_code
def yX4_reasonAgainstRenewing : MethodName := ⟨RX4, "reasonAgainstRenewing", "(I)I"⟩
abbrev cX4_claim : ByteArray := prog_1_method_24_code
def yX4_claim : MethodName := ⟨RX4, "claim", "(I)I"⟩
abbrev cX4_reasonAgainstClaiming : ByteArray := prog_1_method_25_code
def yX4_reasonAgainstClaiming : MethodName := ⟨RX4, "reasonAgainstClaiming", "(I)I"⟩
abbrev cX4_lose : ByteArray := prog_1_method_26_code
def yX4_lose : MethodName := ⟨RX4, "lose", "(I)I"⟩
abbrev cX4_reasonAgainstLosing : ByteArray := prog_1_method_27_code
def yX4_reasonAgainstLosing : MethodName := ⟨RX4, "reasonAgainstLosing", "(I)I"⟩
abbrev cX4_hold : ByteArray := prog_1_method_28_code
def yX4_hold : MethodName := ⟨RX4, "hold", "(III)I"⟩
abbrev cX4_makeHold : ByteArray := prog_1_method_29_code
def yX4_makeHold : MethodName := ⟨RX4, "makeHold", "(III)I"⟩
abbrev cX4_reasonAgainstHolding : ByteArray := prog_1_method_30_code
def yX4_reasonAgainstHolding : MethodName := ⟨RX4, "reasonAgainstHolding", "(II)I"⟩
abbrev cX4_cancelHold : ByteArray := prog_1_method_31_code
def yX4_cancelHold : MethodName := ⟨RX4, "cancelHold", "(II)I"⟩
abbrev cX4_dropHold : ByteArray := prog_1_method_32_code
def yX4_dropHold : MethodName := ⟨RX4, "dropHold", "(II)I"⟩
abbrev cX4_reason : ByteArray := prog_1_method_33_code
def yX4_reason : MethodName := ⟨RX4, "reason", "(III)I"⟩
abbrev cX4_holdCount : ByteArray := prog_1_method_34_code
def yX4_holdCount : MethodName := ⟨RX4, "holdCount", "(I)I"⟩
abbrev cX4_waiting : ByteArray := prog_1_method_35_code
def yX4_waiting : MethodName := ⟨RX4, "waiting", "(I)I"⟩
abbrev cX4_holdAt : ByteArray := prog_1_method_36_code
def yX4_holdAt : MethodName := ⟨RX4, "holdAt", "(III)I"⟩
abbrev cX4_place : ByteArray := prog_1_method_37_code
def yX4_place : MethodName := ⟨RX4, "place", "(II)I"⟩
abbrev cX4_estimate : ByteArray := prog_1_method_38_code
def yX4_estimate : MethodName := ⟨RX4, "estimate", "(II)I"⟩
abbrev cX4_expectedDay : ByteArray := prog_1_method_39_code
def yX4_expectedDay : MethodName := ⟨RX4, "expectedDay", "(II)I"⟩
abbrev cX4_expectedBefore : ByteArray := prog_1_method_40_code
def yX4_expectedBefore : MethodName := ⟨RX4, "expectedBefore", "(III)I"⟩
abbrev cX4_patronCount : ByteArray := prog_1_method_41_code
def yX4_patronCount : MethodName := ⟨RX4, "patronCount", "()I"⟩
abbrev cX4_owes : ByteArray := prog_1_method_42_code
def yX4_owes : MethodName := ⟨RX4, "owes", "(I)I"⟩
abbrev cX4_accrued : ByteArray := prog_1_method_43_code
def yX4_accrued : MethodName := ⟨RX4, "accrued", "(I)I"⟩
abbrev cX4_patron : ByteArray := prog_1_method_44_code
def yX4_patron : MethodName := ⟨RX4, "patron", "(II)I"⟩
abbrev cX4_loanOf : ByteArray := prog_1_method_45_code
def yX4_loanOf : MethodName := ⟨RX4, "loanOf", "(II)I"⟩
abbrev cX4_fine : ByteArray := prog_1_method_46_code
def yX4_fine : MethodName := ⟨RX4, "fine", "(I)I"⟩
abbrev cX4_pay : ByteArray := prog_1_method_47_code
def yX4_pay : MethodName := ⟨RX4, "pay", "(II)I"⟩
abbrev cX4_waive : ByteArray := prog_1_method_48_code
def yX4_waive : MethodName := ⟨RX4, "waive", "(II)I"⟩
abbrev cX4_credit : ByteArray := prog_1_method_49_code
def yX4_credit : MethodName := ⟨RX4, "credit", "(III)I"⟩
abbrev cX4_ledgerSize : ByteArray := prog_1_method_50_code
def yX4_ledgerSize : MethodName := ⟨RX4, "ledgerSize", "()I"⟩
abbrev cX4_ledger : ByteArray := prog_1_method_51_code
def yX4_ledger : MethodName := ⟨RX4, "ledger", "(II)I"⟩
abbrev cX4_ledgerSum : ByteArray := prog_1_method_52_code
def yX4_ledgerSum : MethodName := ⟨RX4, "ledgerSum", "(II)I"⟩
abbrev cX4_shelf : ByteArray := prog_1_method_53_code
def yX4_shelf : MethodName := ⟨RX4, "shelf", "(II)I"⟩
abbrev cX4_arriving : ByteArray := prog_1_method_54_code
def yX4_arriving : MethodName := ⟨RX4, "arriving", "(II)I"⟩
abbrev cX4_feed : ByteArray := prog_1_method_55_code
def yX4_feed : MethodName := ⟨RX4, "feed", "(I)I"⟩
abbrev cX4_execute : ByteArray := prog_1_method_56_code
def yX4_execute : MethodName := ⟨RX4, "execute", "()I"⟩
abbrev cX4_runCommand : ByteArray := prog_1_method_57_code
def yX4_runCommand : MethodName := ⟨RX4, "runCommand", "(I)I"⟩
abbrev cX4_save : ByteArray := prog_1_method_58_code
def yX4_save : MethodName := ⟨RX4, "save", "()I"⟩
abbrev cX4_restore : ByteArray := prog_1_method_59_code
def yX4_restore : MethodName := ⟨RX4, "restore", "()I"⟩
abbrev cX4_undo : ByteArray := prog_1_method_60_code
def yX4_undo : MethodName := ⟨RX4, "undo", "()I"⟩
abbrev cX4_settle : ByteArray := prog_1_method_61_code
def yX4_settle : MethodName := ⟨RX4, "settle", "(I)I"⟩
abbrev cX4_commit : ByteArray := prog_1_method_62_code
def yX4_commit : MethodName := ⟨RX4, "commit", "()V"⟩
abbrev cX4_refusal : ByteArray := prog_1_method_63_code
def yX4_refusal : MethodName := ⟨RX4, "refusal", "(I)I"⟩
abbrev cX4_isBranch : ByteArray := prog_1_method_64_code
def yX4_isBranch : MethodName := ⟨RX4, "isBranch", "(I)Z"⟩
abbrev cX4_isTitle : ByteArray := prog_1_method_65_code
def yX4_isTitle : MethodName := ⟨RX4, "isTitle", "(I)Z"⟩
abbrev cX4_isCopy : ByteArray := prog_1_method_66_code
def yX4_isCopy : MethodName := ⟨RX4, "isCopy", "(I)Z"⟩
abbrev cX4_isPatron : ByteArray := prog_1_method_67_code
def yX4_isPatron : MethodName := ⟨RX4, "isPatron", "(I)Z"⟩
abbrev cX4_isInRange : ByteArray := prog_1_method_68_code
def yX4_isInRange : MethodName := ⟨RX4, "isInRange", "(II)Z"⟩
abbrev cX4_valueOf : ByteArray := prog_1_method_69_code
def yX4_valueOf : MethodName := ⟨RX4, "valueOf", "(I)I"⟩
abbrev cX4_stateOf : ByteArray := prog_1_method_70_code
def yX4_stateOf : MethodName := ⟨RX4, "stateOf", "(I)I"⟩
abbrev cX4_titleOf : ByteArray := prog_1_method_71_code
def yX4_titleOf : MethodName := ⟨RX4, "titleOf", "(I)I"⟩
abbrev cX4_isAt : ByteArray := prog_1_method_72_code
def yX4_isAt : MethodName := ⟨RX4, "isAt", "(III)Z"⟩
abbrev cX4_isWithPatron : ByteArray := prog_1_method_73_code
def yX4_isWithPatron : MethodName := ⟨RX4, "isWithPatron", "(I)Z"⟩
abbrev cX4_putCopy : ByteArray := prog_1_method_74_code
def yX4_putCopy : MethodName := ⟨RX4, "putCopy", "(IIII)V"⟩
abbrev cX4_putLoan : ByteArray := prog_1_method_75_code
def yX4_putLoan : MethodName := ⟨RX4, "putLoan", "(IIII)V"⟩
abbrev cX4_becomeFree : ByteArray := prog_1_method_76_code
def yX4_becomeFree : MethodName := ⟨RX4, "becomeFree", "(II)V"⟩
abbrev cX4_becomeLost : ByteArray := prog_1_method_77_code
def yX4_becomeLost : MethodName := ⟨RX4, "becomeLost", "(I)V"⟩
abbrev cX4_wayBetween : ByteArray := prog_1_method_78_code
def yX4_wayBetween : MethodName := ⟨RX4, "wayBetween", "(II)I"⟩
abbrev cX4_nearestOnShelf : ByteArray := prog_1_method_79_code
def yX4_nearestOnShelf : MethodName := ⟨RX4, "nearestOnShelf", "(II)I"⟩
abbrev cX4_recallFor : ByteArray := prog_1_method_80_code
def yX4_recallFor : MethodName := ⟨RX4, "recallFor", "(I)V"⟩
abbrev cX4_earliestNotRecalled : ByteArray := prog_1_method_81_code
def yX4_earliestNotRecalled : MethodName := ⟨RX4, "earliestNotRecalled", "(I)I"⟩
abbrev cX4_nextByDay : ByteArray := prog_1_method_82_code
def yX4_nextByDay : MethodName := ⟨RX4, "nextByDay", "(III)I"⟩
abbrev cX4_countBefore : ByteArray := prog_1_method_83_code
def yX4_countBefore : MethodName := ⟨RX4, "countBefore", "(III)I"⟩
abbrev cX4_isBefore : ByteArray := prog_1_method_84_code
def yX4_isBefore : MethodName := ⟨RX4, "isBefore", "(IIII)Z"⟩
abbrev cX4_findHold : ByteArray := prog_1_method_85_code
def yX4_findHold : MethodName := ⟨RX4, "findHold", "(II)I"⟩
abbrev cX4_removeHold : ByteArray := prog_1_method_86_code
def yX4_removeHold : MethodName := ⟨RX4, "removeHold", "(I)V"⟩
abbrev cX4_isWaiting : ByteArray := prog_1_method_87_code
def yX4_isWaiting : MethodName := ⟨RX4, "isWaiting", "(II)Z"⟩
abbrev cX4_firstWaiting : ByteArray := prog_1_method_88_code
def yX4_firstWaiting : MethodName := ⟨RX4, "firstWaiting", "(I)I"⟩
abbrev cX4_waitingBefore : ByteArray := prog_1_method_89_code
def yX4_waitingBefore : MethodName := ⟨RX4, "waitingBefore", "(II)I"⟩
abbrev cX4_holdsBefore : ByteArray := prog_1_method_90_code
def yX4_holdsBefore : MethodName := ⟨RX4, "holdsBefore", "(II)I"⟩
abbrev cX4_holdsOf : ByteArray := prog_1_method_91_code
def yX4_holdsOf : MethodName := ⟨RX4, "holdsOf", "(I)I"⟩
abbrev cX4_loanCount : ByteArray := prog_1_method_92_code
def yX4_loanCount : MethodName := ⟨RX4, "loanCount", "(I)I"⟩
abbrev cX4_overdueCount : ByteArray := prog_1_method_93_code
def yX4_overdueCount : MethodName := ⟨RX4, "overdueCount", "(I)I"⟩
abbrev cX4_hasLoanOf : ByteArray := prog_1_method_94_code
def yX4_hasLoanOf : MethodName := ⟨RX4, "hasLoanOf", "(II)Z"⟩
abbrev cX4_owesTheLimit : ByteArray := prog_1_method_95_code
def yX4_owesTheLimit : MethodName := ⟨RX4, "owesTheLimit", "(I)Z"⟩
abbrev cX4_fineOf : ByteArray := prog_1_method_96_code
def yX4_fineOf : MethodName := ⟨RX4, "fineOf", "(I)I"⟩
abbrev cX4_enter : ByteArray := prog_1_method_97_code
def yX4_enter : MethodName := ⟨RX4, "enter", "(IIII)V"⟩
def RX5 : String := "LibraryCirculationModel"
def TX5 : u_T := fun k => match k with
  | 0 => ("LibraryCirculationModel", "now", "[I", true)
  | 1 => ("LibraryCirculationModel", "before", "[I", true)
  | 2 => ("LibraryCirculationModel", "image", "[I", true)
  | 3 => ("LibraryCirculationModel", "changes", "[I", true)
  | 4 => ("LibraryCirculationModel", "changed", "I", false)
  | 5 => ("LibraryCirculationModel", "isSaved", "Z", false)
  | 6 => ("LibraryCirculationModel", "text", "[I", true)
  | 7 => ("LibraryCirculationModel", "numbers", "[I", true)
  | 8 => ("LibraryCirculationModel", "fed", "I", false)
  | 9 => ("LibraryCirculationModel", "at", "I", false)
  | _ => ("LibraryCirculationModel", "isWrong", "Z", false)
def tyX5 : Nat → FieldType := fun k => match k with
  | 0 => .array .int
  | 1 => .array .int
  | 2 => .array .int
  | 3 => .array .int
  | 4 => .int
  | 5 => .boolean
  | 6 => .array .int
  | 7 => .array .int
  | 8 => .int
  | 9 => .int
  | _ => .boolean
theorem nmX5 : ∀ a, a < 11 → ∀ b, b < 11 → a ≠ b → (TX5 a).2.1 ≠ (TX5 b).2.1 := by decide +kernel
theorem tyX5_ok : ∀ k, k < 11 → parseFieldDescriptor (TX5 k).2.2.1 = some (tyX5 k) := by decide +kernel
abbrev cX5_init : ByteArray := prog_7_method_1_code
def yX5_init : MethodName := ⟨RX5, "<init>", "()V"⟩
abbrev cX5_in : ByteArray := prog_7_method_2_code
def yX5_in : MethodName := ⟨RX5, "in", "(III)Z"⟩
abbrev cX5_copies : ByteArray := prog_7_method_3_code
def yX5_copies : MethodName := ⟨RX5, "copies", "([II[II)V"⟩
abbrev cX5_keeps : ByteArray := prog_7_method_4_code
def yX5_keeps : MethodName := ⟨RX5, "keeps", "()V"⟩
abbrev cX5_made : ByteArray := prog_7_method_5_code
def yX5_made : MethodName := ⟨RX5, "made", "(I)I"⟩
abbrev cX5_isCopy : ByteArray := prog_7_method_6_code
def yX5_isCopy : MethodName := ⟨RX5, "isCopy", "(I)Z"⟩
abbrev cX5_isPatron : ByteArray := prog_7_method_7_code
def yX5_isPatron : MethodName := ⟨RX5, "isPatron", "(I)Z"⟩
abbrev cX5_isTitle : ByteArray := prog_7_method_8_code
def yX5_isTitle : MethodName := ⟨RX5, "isTitle", "(I)Z"⟩
abbrev cX5_isBranch : ByteArray := prog_7_method_9_code
def yX5_isBranch : MethodName := ⟨RX5, "isBranch", "(I)Z"⟩
abbrev cX5_of : ByteArray := prog_7_method_10_code
def yX5_of : MethodName := ⟨RX5, "of", "(II)I"⟩
abbrev cX5_puts : ByteArray := prog_7_method_11_code
def yX5_puts : MethodName := ⟨RX5, "puts", "(III)V"⟩
abbrev cX5_turns : ByteArray := prog_7_method_12_code
def yX5_turns : MethodName := ⟨RX5, "turns", "(IIII)V"⟩
abbrev cX5_hold : ByteArray := prog_7_method_13_code
def yX5_hold : MethodName := ⟨RX5, "hold", "(II)I"⟩
abbrev cX5_holdOf : ByteArray := prog_7_method_14_code
def yX5_holdOf : MethodName := ⟨RX5, "holdOf", "(I)I"⟩
abbrev cX5_holdBy : ByteArray := prog_7_method_15_code
def yX5_holdBy : MethodName := ⟨RX5, "holdBy", "(II)I"⟩
abbrev cX5_firstWaiting : ByteArray := prog_7_method_16_code
def yX5_firstWaiting : MethodName := ⟨RX5, "firstWaiting", "(I)I"⟩
abbrev cX5_holds : ByteArray := prog_7_method_17_code
def yX5_holds : MethodName := ⟨RX5, "holds", "(I)I"⟩
abbrev cX5_waitingFor : ByteArray := prog_7_method_18_code
def yX5_waitingFor : MethodName := ⟨RX5, "waitingFor", "(I)I"⟩
abbrev cX5_removes : ByteArray := prog_7_method_19_code
def yX5_removes : MethodName := ⟨RX5, "removes", "(I)V"⟩
abbrev cX5_assigns : ByteArray := prog_7_method_20_code
def yX5_assigns : MethodName := ⟨RX5, "assigns", "(III)V"⟩
abbrev cX5_frees : ByteArray := prog_7_method_21_code
def yX5_frees : MethodName := ⟨RX5, "frees", "(II)V"⟩
abbrev cX5_owes : ByteArray := prog_7_method_22_code
def yX5_owes : MethodName := ⟨RX5, "owes", "(IIII)V"⟩
abbrev cX5_late : ByteArray := prog_7_method_23_code
def yX5_late : MethodName := ⟨RX5, "late", "(I)I"⟩
abbrev cX5_isBarred : ByteArray := prog_7_method_24_code
def yX5_isBarred : MethodName := ⟨RX5, "isBarred", "(I)Z"⟩
abbrev cX5_loans : ByteArray := prog_7_method_25_code
def yX5_loans : MethodName := ⟨RX5, "loans", "(I)I"⟩
abbrev cX5_addCopy : ByteArray := prog_7_method_26_code
def yX5_addCopy : MethodName := ⟨RX5, "addCopy", "(II)I"⟩
abbrev cX5_addPatron : ByteArray := prog_7_method_27_code
def yX5_addPatron : MethodName := ⟨RX5, "addPatron", "()I"⟩
abbrev cX5_least : ByteArray := prog_7_method_28_code
def yX5_least : MethodName := ⟨RX5, "least", "(I)I"⟩
abbrev cX5_most : ByteArray := prog_7_method_29_code
def yX5_most : MethodName := ⟨RX5, "most", "(I)I"⟩
abbrev cX5_set : ByteArray := prog_7_method_30_code
def yX5_set : MethodName := ⟨RX5, "set", "(II)I"⟩
abbrev cX5_setting : ByteArray := prog_7_method_31_code
def yX5_setting : MethodName := ⟨RX5, "setting", "(I)I"⟩
abbrev cX5_setFloating : ByteArray := prog_7_method_32_code
def yX5_setFloating : MethodName := ⟨RX5, "setFloating", "(IZ)I"⟩
abbrev cX5_copyCount : ByteArray := prog_7_method_33_code
def yX5_copyCount : MethodName := ⟨RX5, "copyCount", "(I)I"⟩
abbrev cX5_copy : ByteArray := prog_7_method_34_code
def yX5_copy : MethodName := ⟨RX5, "copy", "(II)I"⟩
abbrev cX5_day : ByteArray := prog_7_method_35_code
def yX5_day : MethodName := ⟨RX5, "day", "()I"⟩
abbrev cX5_arrive : ByteArray := prog_7_method_36_code
def yX5_arrive : MethodName := ⟨RX5, "arrive", "()V"⟩
abbrev cX5_expire : ByteArray := prog_7_method_37_code
def yX5_expire : MethodName := ⟨RX5, "expire", "()V"⟩
abbrev cX5_loses : ByteArray := prog_7_method_38_code
def yX5_loses : MethodName := ⟨RX5, "loses", "(I)V"⟩
abbrev cX5_passes : ByteArray := prog_7_method_39_code
def yX5_passes : MethodName := ⟨RX5, "passes", "(I)I"⟩
abbrev cX5_pass : ByteArray := prog_7_method_40_code
def yX5_pass : MethodName := ⟨RX5, "pass", "(I)I"⟩
abbrev cX5_reasonToLend : ByteArray := prog_7_method_41_code
def yX5_reasonToLend : MethodName := ⟨RX5, "reasonToLend", "(II)I"⟩
abbrev cX5_lends : ByteArray := prog_7_method_42_code
def yX5_lends : MethodName := ⟨RX5, "lends", "(II)I"⟩
abbrev cX5_lend : ByteArray := prog_7_method_43_code
def yX5_lend : MethodName := ⟨RX5, "lend", "(II)I"⟩
abbrev cX5_bringsBack : ByteArray := prog_7_method_44_code
def yX5_bringsBack : MethodName := ⟨RX5, "bringsBack", "(II)I"⟩
abbrev cX5_bringBack : ByteArray := prog_7_method_45_code
def yX5_bringBack : MethodName := ⟨RX5, "bringBack", "(II)I"⟩
abbrev cX5_reasonToRenew : ByteArray := prog_7_method_46_code
def yX5_reasonToRenew : MethodName := ⟨RX5, "reasonToRenew", "(I)I"⟩
abbrev cX5_renews : ByteArray := prog_7_method_47_code
def yX5_renews : MethodName := ⟨RX5, "renews", "(I)I"⟩
abbrev cX5_renew : ByteArray := prog_7_method_48_code
def yX5_renew : MethodName := ⟨RX5, "renew", "(I)I"⟩
abbrev cX5_reasonToClaim : ByteArray := prog_7_method_49_code
def yX5_reasonToClaim : MethodName := ⟨RX5, "reasonToClaim", "(I)I"⟩
abbrev cX5_claim : ByteArray := prog_7_method_50_code
def yX5_claim : MethodName := ⟨RX5, "claim", "(I)I"⟩
abbrev cX5_reasonToLose : ByteArray := prog_7_method_51_code
def yX5_reasonToLose : MethodName := ⟨RX5, "reasonToLose", "(I)I"⟩
abbrev cX5_lose : ByteArray := prog_7_method_52_code
def yX5_lose : MethodName := ⟨RX5, "lose", "(I)I"⟩
abbrev cX5_reasonToHold : ByteArray := prog_7_method_53_code
def yX5_reasonToHold : MethodName := ⟨RX5, "reasonToHold", "(II)I"⟩
abbrev cX5_nearest : ByteArray := prog_7_method_54_code
def yX5_nearest : MethodName := ⟨RX5, "nearest", "(II)I"⟩
abbrev cX5_recalls : ByteArray := prog_7_method_55_code
def yX5_recalls : MethodName := ⟨RX5, "recalls", "(I)V"⟩
abbrev cX5_laysHold : ByteArray := prog_7_method_56_code
def yX5_laysHold : MethodName := ⟨RX5, "laysHold", "(III)I"⟩
abbrev cX5_hold_ : ByteArray := prog_7_method_57_code
def yX5_hold_ : MethodName := ⟨RX5, "hold", "(III)I"⟩
abbrev cX5_cancels : ByteArray := prog_7_method_58_code
def yX5_cancels : MethodName := ⟨RX5, "cancels", "(II)I"⟩
abbrev cX5_cancelHold : ByteArray := prog_7_method_59_code
def yX5_cancelHold : MethodName := ⟨RX5, "cancelHold", "(II)I"⟩
abbrev cX5_reason : ByteArray := prog_7_method_60_code
def yX5_reason : MethodName := ⟨RX5, "reason", "(III)I"⟩
abbrev cX5_holdCount : ByteArray := prog_7_method_61_code
def yX5_holdCount : MethodName := ⟨RX5, "holdCount", "(I)I"⟩
abbrev cX5_waiting : ByteArray := prog_7_method_62_code
def yX5_waiting : MethodName := ⟨RX5, "waiting", "(I)I"⟩
abbrev cX5_holdAt : ByteArray := prog_7_method_63_code
def yX5_holdAt : MethodName := ⟨RX5, "holdAt", "(III)I"⟩
abbrev cX5_place : ByteArray := prog_7_method_64_code
def yX5_place : MethodName := ⟨RX5, "place", "(II)I"⟩
abbrev cX5_freeDay : ByteArray := prog_7_method_65_code
def yX5_freeDay : MethodName := ⟨RX5, "freeDay", "(II)I"⟩
abbrev cX5_estimate : ByteArray := prog_7_method_66_code
def yX5_estimate : MethodName := ⟨RX5, "estimate", "(II)I"⟩
abbrev cX5_patronCount : ByteArray := prog_7_method_67_code
def yX5_patronCount : MethodName := ⟨RX5, "patronCount", "()I"⟩
abbrev cX5_owes_ : ByteArray := prog_7_method_68_code
def yX5_owes_ : MethodName := ⟨RX5, "owes", "(I)I"⟩
abbrev cX5_accrued : ByteArray := prog_7_method_69_code
def yX5_accrued : MethodName := ⟨RX5, "accrued", "(I)I"⟩
abbrev cX5_overdue : ByteArray := prog_7_method_70_code
def yX5_overdue : MethodName := ⟨RX5, "overdue", "(I)I"⟩
abbrev cX5_holdsOf : ByteArray := prog_7_method_71_code
def yX5_holdsOf : MethodName := ⟨RX5, "holdsOf", "(I)I"⟩
abbrev cX5_patron : ByteArray := prog_7_method_72_code
def yX5_patron : MethodName := ⟨RX5, "patron", "(II)I"⟩
abbrev cX5_byDate : ByteArray := prog_7_method_73_code
def yX5_byDate : MethodName := ⟨RX5, "byDate", "(III)I"⟩
abbrev cX5_loanOf : ByteArray := prog_7_method_74_code
def yX5_loanOf : MethodName := ⟨RX5, "loanOf", "(II)I"⟩
abbrev cX5_fine : ByteArray := prog_7_method_75_code
def yX5_fine : MethodName := ⟨RX5, "fine", "(I)I"⟩
abbrev cX5_lessens : ByteArray := prog_7_method_76_code
def yX5_lessens : MethodName := ⟨RX5, "lessens", "(III)I"⟩
abbrev cX5_pay : ByteArray := prog_7_method_77_code
def yX5_pay : MethodName := ⟨RX5, "pay", "(II)I"⟩
abbrev cX5_waive : ByteArray := prog_7_method_78_code
def yX5_waive : MethodName := ⟨RX5, "waive", "(II)I"⟩
abbrev cX5_ledgerSize : ByteArray := prog_7_method_79_code
def yX5_ledgerSize : MethodName := ⟨RX5, "ledgerSize", "()I"⟩
abbrev cX5_ledger : ByteArray := prog_7_method_80_code
def yX5_ledger : MethodName := ⟨RX5, "ledger", "(II)I"⟩
abbrev cX5_ledgerSum : ByteArray := prog_7_method_81_code
def yX5_ledgerSum : MethodName := ⟨RX5, "ledgerSum", "(II)I"⟩
abbrev cX5_shelf : ByteArray := prog_7_method_82_code
def yX5_shelf : MethodName := ⟨RX5, "shelf", "(II)I"⟩
abbrev cX5_arriving : ByteArray := prog_7_method_83_code
def yX5_arriving : MethodName := ⟨RX5, "arriving", "(II)I"⟩
abbrev cX5_feed : ByteArray := prog_7_method_84_code
def yX5_feed : MethodName := ⟨RX5, "feed", "(I)I"⟩
abbrev cX5_sign : ByteArray := prog_7_method_85_code
def yX5_sign : MethodName := ⟨RX5, "sign", "()I"⟩
abbrev cX5_number : ByteArray := prog_7_method_86_code
def yX5_number : MethodName := ⟨RX5, "number", "()I"⟩
abbrev cX5_command : ByteArray := prog_7_method_87_code
def yX5_command : MethodName := ⟨RX5, "command", "()I"⟩
abbrev cX5_does : ByteArray := prog_7_method_88_code
def yX5_does : MethodName := ⟨RX5, "does", "(I)I"⟩
abbrev cX5_execute : ByteArray := prog_7_method_89_code
def yX5_execute : MethodName := ⟨RX5, "execute", "()I"⟩
abbrev cX5_save : ByteArray := prog_7_method_90_code
def yX5_save : MethodName := ⟨RX5, "save", "()I"⟩
abbrev cX5_restore : ByteArray := prog_7_method_91_code
def yX5_restore : MethodName := ⟨RX5, "restore", "()I"⟩
abbrev cX5_undo : ByteArray := prog_7_method_92_code
def yX5_undo : MethodName := ⟨RX5, "undo", "()I"⟩
def RL : String := "LibraryCirculationLaw"
abbrev cL_law : ByteArray := code
def yL_law : MethodName := ⟨RL, "law", "([I)Z"⟩
abbrev vwCl : List vw_C := [(RX0, TX0, 4), (RX1, TX1, 3), (RX2, TX2, 6), (RX3, TX3, 4), (RX4, TX4, 6), (RX5, TX5, 11)]
/-- the words that a call keeps: of every method's word list -/
def wU : List Cond := lw_tbl.filter goodWord
theorem mU {w : Cond} (h : w ∈ lw_tbl) (g : goodWord w = true) : w ∈ wU := List.mem_filter.mpr ⟨h, g⟩
theorem wU_tbl {w : Cond} (h : w ∈ wU) : w ∈ lw_tbl := (List.mem_filter.mp h).1
theorem wU_good {w : Cond} (h : w ∈ wU) : goodWord w = true := (List.mem_filter.mp h).2
theorem tb0 {w : Cond} (h : w ∈ tables_1) : w ∈ lw_tbl := List.mem_append_right _ h
theorem tb1 {w : Cond} (h : w ∈ tables_1_1) : w ∈ lw_tbl := tb0 (List.mem_append_left _ h)
theorem tb2 {w : Cond} (h : w ∈ tables_1_2) : w ∈ lw_tbl := tb0 (List.mem_append_right _ (List.mem_append_left _ h))
theorem tb3 {w : Cond} (h : w ∈ tables_1_3) : w ∈ lw_tbl := tb0 (List.mem_append_right _ (List.mem_append_right _ (List.mem_append_left _ h)))
theorem tb4 {w : Cond} (h : w ∈ tables_1_4) : w ∈ lw_tbl := tb0 (List.mem_append_right _ (List.mem_append_right _ (List.mem_append_right _ (List.mem_append_left _ h))))
theorem tb5 {w : Cond} (h : w ∈ tables_1_5) : w ∈ lw_tbl := tb0 (List.mem_append_right _ (List.mem_append_right _ (List.mem_append_right _ (List.mem_append_right _ h))))
theorem mZ_RL : Cond.initialized RL ∈ wU := mU (tb1 (List.mem_of_getElem? (i := 0) (by decide +kernel))) rfl
theorem mZ_RX4 : Cond.initialized RX4 ∈ wU := mU (tb1 (List.mem_of_getElem? (i := 1) (by decide +kernel))) rfl
theorem mZ_RX2 : Cond.initialized RX2 ∈ wU := mU (tb1 (List.mem_of_getElem? (i := 2) (by decide +kernel))) rfl
theorem mZ_RX3 : Cond.initialized RX3 ∈ wU := mU (tb1 (List.mem_of_getElem? (i := 3) (by decide +kernel))) rfl
theorem mZ_java_lang_Math : Cond.initialized "java/lang/Math" ∈ wU := mU (tb1 (List.mem_of_getElem? (i := 4) (by decide +kernel))) rfl
theorem mZ_RX1 : Cond.initialized RX1 ∈ wU := mU (tb1 (List.mem_of_getElem? (i := 5) (by decide +kernel))) rfl
theorem mZ_RX0 : Cond.initialized RX0 ∈ wU := mU (tb1 (List.mem_of_getElem? (i := 6) (by decide +kernel))) rfl
theorem mZ_RX5 : Cond.initialized RX5 ∈ wU := mU (tb1 (List.mem_of_getElem? (i := 7) (by decide +kernel))) rfl
theorem mZ_java_lang_System : Cond.initialized "java/lang/System" ∈ wU := mU (tb1 (List.mem_of_getElem? (i := 8) (by decide +kernel))) rfl
theorem mN_RL_7 : Cond.classLink RL 7 RX4 ∈ wU := mU (tb1 (List.mem_of_getElem? (i := 9) (by decide +kernel))) rfl
theorem mB_RX4 : Cond.instantiable RX4 6 ∈ wU := mU (tb1 (List.mem_of_getElem? (i := 10) (by decide +kernel))) rfl
theorem mL_RL_9 : Cond.methodLink RL 9 yX4_init ∈ wU := mU (tb1 (List.mem_of_getElem? (i := 11) (by decide +kernel))) rfl
theorem mI_X4_init : Cond.instanceMethod yX4_init ∈ wU := mU (tb1 (List.mem_of_getElem? (i := 12) (by decide +kernel))) rfl
theorem mC_X4_init : Cond.code yX4_init cX4_init 1 none ∈ wU := mU (tb1 (List.mem_of_getElem? (i := 13) (by decide +kernel))) rfl
theorem mL_RX4_1 : Cond.methodLink RX4 1 objectInit ∈ wU := mU (tb1 (List.mem_of_getElem? (i := 14) (by decide +kernel))) rfl
theorem mI_Obj_init : Cond.instanceMethod objectInit ∈ wU := mU (tb1 (List.mem_of_getElem? (i := 15) (by decide +kernel))) rfl
theorem mC_Obj_init : Cond.code objectInit ⟨#[0xb1]⟩ 1 none ∈ wU := mU (tb1 (List.mem_of_getElem? (i := 16) (by decide +kernel))) rfl
theorem mN_RX4_7 : Cond.classLink RX4 7 RX2 ∈ wU := mU (tb1 (List.mem_of_getElem? (i := 17) (by decide +kernel))) rfl
theorem mB_RX2 : Cond.instantiable RX2 6 ∈ wU := mU (tb1 (List.mem_of_getElem? (i := 18) (by decide +kernel))) rfl
theorem mL_RX4_9 : Cond.methodLink RX4 9 yX2_init ∈ wU := mU (tb1 (List.mem_of_getElem? (i := 19) (by decide +kernel))) rfl
theorem mI_X2_init : Cond.instanceMethod yX2_init ∈ wU := mU (tb1 (List.mem_of_getElem? (i := 20) (by decide +kernel))) rfl
theorem mC_X2_init : Cond.code yX2_init cX2_init 2 none ∈ wU := mU (tb1 (List.mem_of_getElem? (i := 21) (by decide +kernel))) rfl
theorem mL_RX2_3 : Cond.methodLink RX2 3 objectInit ∈ wU := mU (tb1 (List.mem_of_getElem? (i := 22) (by decide +kernel))) rfl
theorem mN_RX2_9 : Cond.classLink RX2 9 RX3 ∈ wU := mU (tb1 (List.mem_of_getElem? (i := 23) (by decide +kernel))) rfl
theorem mB_RX3 : Cond.instantiable RX3 4 ∈ wU := mU (tb1 (List.mem_of_getElem? (i := 24) (by decide +kernel))) rfl
theorem mL_RX2_11 : Cond.methodLink RX2 11 yX3_init ∈ wU := mU (tb1 (List.mem_of_getElem? (i := 25) (by decide +kernel))) rfl
theorem mI_X3_init : Cond.instanceMethod yX3_init ∈ wU := mU (tb1 (List.mem_of_getElem? (i := 26) (by decide +kernel))) rfl
theorem mC_X3_init : Cond.code yX3_init cX3_init 3 none ∈ wU := mU (tb1 (List.mem_of_getElem? (i := 27) (by decide +kernel))) rfl
theorem mL_RX3_3 : Cond.methodLink RX3 3 objectInit ∈ wU := mU (tb1 (List.mem_of_getElem? (i := 28) (by decide +kernel))) rfl
theorem mL_RX3_21 : Cond.methodLink RX3 21 ⟨"java/lang/Math", "max", "(II)I"⟩ ∈ wU := mU (tb1 (List.mem_of_getElem? (i := 29) (by decide +kernel))) rfl
theorem mT_J_max_III : Cond.static ⟨"java/lang/Math", "max", "(II)I"⟩ ∈ wU := mU (tb1 (List.mem_of_getElem? (i := 30) (by decide +kernel))) rfl
theorem mC_J_max_III : Cond.code ⟨"java/lang/Math", "max", "(II)I"⟩ prog_8_method_65_code 2 (some .int) ∈ wU := mU (tb1 (List.mem_of_getElem? (i := 31) (by decide +kernel))) rfl
theorem mF_RX3_15 : Cond.fieldLink RX3 15 "LibraryCirculation$Table" "capacity" "I" ∈ wU := mU (tb1 (List.mem_of_getElem? (i := 32) (by decide +kernel))) rfl
theorem mF_RX3_18 : Cond.fieldLink RX3 18 "LibraryCirculation$Table" "columns" "I" ∈ wU := mU (tb1 (List.mem_of_getElem? (i := 33) (by decide +kernel))) rfl
theorem mF_RX3_27 : Cond.fieldLink RX3 27 "LibraryCirculation$Table" "cells" "[I" ∈ wU := mU (tb1 (List.mem_of_getElem? (i := 34) (by decide +kernel))) rfl
theorem mF_RX3_9 : Cond.fieldLink RX3 9 "LibraryCirculation$Table" "size" "I" ∈ wU := mU (tb1 (List.mem_of_getElem? (i := 35) (by decide +kernel))) rfl
theorem mAC : Cond.arrayClass .int ∈ wU := mU (tb1 (List.mem_of_getElem? (i := 45) (by decide +kernel))) rfl
theorem mFN_RX2_29 : Cond.fieldLinkNest RX2 29 "LibraryCirculation" "FIRST_VALUES" "[I" "LibraryCirculation" ∈ lw_tbl := tb1 (List.mem_of_getElem? (i := 46) (by decide +kernel))
theorem mL_RX2_40 : Cond.methodLink RX2 40 yX3_addRow ∈ wU := mU (tb1 (List.mem_of_getElem? (i := 48) (by decide +kernel))) rfl
theorem mI_X3_addRow : Cond.instanceMethod yX3_addRow ∈ wU := mU (tb1 (List.mem_of_getElem? (i := 49) (by decide +kernel))) rfl
theorem mS_X3_addRow : Cond.selects RX3 yX3_addRow yX3_addRow ∈ wU := mU (tb1 (List.mem_of_getElem? (i := 50) (by decide +kernel))) rfl
theorem mC_X3_addRow : Cond.code yX3_addRow cX3_addRow 2 (some .int) ∈ wU := mU (tb1 (List.mem_of_getElem? (i := 51) (by decide +kernel))) rfl
theorem mL_RX3_31 : Cond.methodLink RX3 31 yX3_put ∈ wU := mU (tb1 (List.mem_of_getElem? (i := 52) (by decide +kernel))) rfl
theorem mI_X3_put : Cond.instanceMethod yX3_put ∈ wU := mU (tb1 (List.mem_of_getElem? (i := 53) (by decide +kernel))) rfl
theorem mS_X3_put : Cond.selects RX3 yX3_put yX3_put ∈ wU := mU (tb1 (List.mem_of_getElem? (i := 54) (by decide +kernel))) rfl
theorem mC_X3_put : Cond.code yX3_put cX3_put 5 none ∈ wU := mU (tb1 (List.mem_of_getElem? (i := 55) (by decide +kernel))) rfl
theorem mL_RX2_44 : Cond.methodLink RX2 44 yX3_put ∈ wU := mU (tb1 (List.mem_of_getElem? (i := 56) (by decide +kernel))) rfl
theorem mF_RX2_14 : Cond.fieldLink RX2 14 "LibraryCirculation$State" "copies" "LLibraryCirculation$Table;" ∈ wU := mU (tb1 (List.mem_of_getElem? (i := 57) (by decide +kernel))) rfl
theorem mFN_RX4_47 : Cond.fieldLinkNest RX4 47 "LibraryCirculation$State" "copies" "LLibraryCirculation$Table;" "LibraryCirculation" ∈ lw_tbl := tb1 (List.mem_of_getElem? (i := 58) (by decide +kernel))
theorem mF_RX2_20 : Cond.fieldLink RX2 20 "LibraryCirculation$State" "patrons" "LLibraryCirculation$Table;" ∈ wU := mU (tb1 (List.mem_of_getElem? (i := 59) (by decide +kernel))) rfl
theorem mFN_RX4_69 : Cond.fieldLinkNest RX4 69 "LibraryCirculation$State" "patrons" "LLibraryCirculation$Table;" "LibraryCirculation" ∈ lw_tbl := tb1 (List.mem_of_getElem? (i := 60) (by decide +kernel))
theorem mF_RX2_23 : Cond.fieldLink RX2 23 "LibraryCirculation$State" "holds" "LLibraryCirculation$Table;" ∈ wU := mU (tb1 (List.mem_of_getElem? (i := 61) (by decide +kernel))) rfl
theorem mFN_RX4_192 : Cond.fieldLinkNest RX4 192 "LibraryCirculation$State" "holds" "LLibraryCirculation$Table;" "LibraryCirculation" ∈ lw_tbl := tb1 (List.mem_of_getElem? (i := 62) (by decide +kernel))
theorem mF_RX2_26 : Cond.fieldLink RX2 26 "LibraryCirculation$State" "ledger" "LLibraryCirculation$Table;" ∈ wU := mU (tb1 (List.mem_of_getElem? (i := 63) (by decide +kernel))) rfl
theorem mFN_RX4_244 : Cond.fieldLinkNest RX4 244 "LibraryCirculation$State" "ledger" "LLibraryCirculation$Table;" "LibraryCirculation" ∈ lw_tbl := tb1 (List.mem_of_getElem? (i := 64) (by decide +kernel))
theorem mF_RX2_33 : Cond.fieldLink RX2 33 "LibraryCirculation$State" "settings" "LLibraryCirculation$Table;" ∈ wU := mU (tb1 (List.mem_of_getElem? (i := 65) (by decide +kernel))) rfl
theorem mFN_RX4_72 : Cond.fieldLinkNest RX4 72 "LibraryCirculation$State" "settings" "LLibraryCirculation$Table;" "LibraryCirculation" ∈ lw_tbl := tb1 (List.mem_of_getElem? (i := 66) (by decide +kernel))
theorem mF_RX2_36 : Cond.fieldLink RX2 36 "LibraryCirculation$State" "today" "I" ∈ wU := mU (tb1 (List.mem_of_getElem? (i := 67) (by decide +kernel))) rfl
theorem mFN_RX4_98 : Cond.fieldLinkNest RX4 98 "LibraryCirculation$State" "today" "I" "LibraryCirculation" ∈ lw_tbl := tb1 (List.mem_of_getElem? (i := 68) (by decide +kernel))
theorem mN_RX4_26 : Cond.classLink RX4 26 RX1 ∈ wU := mU (tb1 (List.mem_of_getElem? (i := 82) (by decide +kernel))) rfl
theorem mB_RX1 : Cond.instantiable RX1 3 ∈ wU := mU (tb1 (List.mem_of_getElem? (i := 83) (by decide +kernel))) rfl
theorem mL_RX4_28 : Cond.methodLink RX4 28 yX1_init ∈ wU := mU (tb1 (List.mem_of_getElem? (i := 84) (by decide +kernel))) rfl
theorem mI_X1_init : Cond.instanceMethod yX1_init ∈ wU := mU (tb1 (List.mem_of_getElem? (i := 85) (by decide +kernel))) rfl
theorem mC_X1_init : Cond.code yX1_init cX1_init 2 none ∈ wU := mU (tb1 (List.mem_of_getElem? (i := 86) (by decide +kernel))) rfl
theorem mL_RX1_3 : Cond.methodLink RX1 3 objectInit ∈ wU := mU (tb1 (List.mem_of_getElem? (i := 87) (by decide +kernel))) rfl
theorem mN_RX1_9 : Cond.classLink RX1 9 RX2 ∈ wU := mU (tb1 (List.mem_of_getElem? (i := 88) (by decide +kernel))) rfl
theorem mAO : Cond.arrayOver (.object "LibraryCirculation$State") ∈ lw_tbl := tb1 (List.mem_of_getElem? (i := 89) (by decide +kernel))
theorem mL_RX1_24 : Cond.methodLink RX1 24 yX2_init ∈ wU := mU (tb1 (List.mem_of_getElem? (i := 90) (by decide +kernel))) rfl
theorem mF_RX1_11 : Cond.fieldLink RX1 11 "LibraryCirculation$History" "states" "[LLibraryCirculation$State;" ∈ wU := mU (tb1 (List.mem_of_getElem? (i := 91) (by decide +kernel))) rfl
theorem mF_RX1_17 : Cond.fieldLink RX1 17 "LibraryCirculation$History" "next" "I" ∈ wU := mU (tb1 (List.mem_of_getElem? (i := 92) (by decide +kernel))) rfl
theorem mF_RX1_21 : Cond.fieldLink RX1 21 "LibraryCirculation$History" "size" "I" ∈ wU := mU (tb1 (List.mem_of_getElem? (i := 93) (by decide +kernel))) rfl
theorem mN_RX4_33 : Cond.classLink RX4 33 RX0 ∈ wU := mU (tb1 (List.mem_of_getElem? (i := 101) (by decide +kernel))) rfl
theorem mB_RX0 : Cond.instantiable RX0 4 ∈ wU := mU (tb1 (List.mem_of_getElem? (i := 102) (by decide +kernel))) rfl
theorem mLN_RX4_35 : Cond.methodLinkNest RX4 35 yX0_init RX4 ∈ lw_tbl := tb1 (List.mem_of_getElem? (i := 103) (by decide +kernel))
theorem mI_X0_init : Cond.instanceMethod yX0_init ∈ wU := mU (tb1 (List.mem_of_getElem? (i := 104) (by decide +kernel))) rfl
theorem mC_X0_init : Cond.code yX0_init cX0_init 1 none ∈ wU := mU (tb1 (List.mem_of_getElem? (i := 105) (by decide +kernel))) rfl
theorem mL_RX0_5 : Cond.methodLink RX0 5 objectInit ∈ wU := mU (tb1 (List.mem_of_getElem? (i := 106) (by decide +kernel))) rfl
theorem mN_RX0_22 : Cond.classLink RX0 22 RX3 ∈ wU := mU (tb1 (List.mem_of_getElem? (i := 107) (by decide +kernel))) rfl
theorem mL_RX0_24 : Cond.methodLink RX0 24 yX3_init ∈ wU := mU (tb1 (List.mem_of_getElem? (i := 108) (by decide +kernel))) rfl
theorem mF_RX0_11 : Cond.fieldLink RX0 11 "LibraryCirculation$CommandText" "letters" "[I" ∈ wU := mU (tb1 (List.mem_of_getElem? (i := 109) (by decide +kernel))) rfl
theorem mF_RX0_15 : Cond.fieldLink RX0 15 "LibraryCirculation$CommandText" "length" "I" ∈ wU := mU (tb1 (List.mem_of_getElem? (i := 110) (by decide +kernel))) rfl
theorem mF_RX0_19 : Cond.fieldLink RX0 19 "LibraryCirculation$CommandText" "position" "I" ∈ wU := mU (tb1 (List.mem_of_getElem? (i := 111) (by decide +kernel))) rfl
theorem mF_RX0_27 : Cond.fieldLink RX0 27 "LibraryCirculation$CommandText" "commands" "LLibraryCirculation$Table;" ∈ wU := mU (tb1 (List.mem_of_getElem? (i := 112) (by decide +kernel))) rfl
theorem mF_RX4_10 : Cond.fieldLink RX4 10 "LibraryCirculation" "now" "LLibraryCirculation$State;" ∈ wU := mU (tb1 (List.mem_of_getElem? (i := 122) (by decide +kernel))) rfl
theorem mF_RX4_16 : Cond.fieldLink RX4 16 "LibraryCirculation" "settled" "LLibraryCirculation$State;" ∈ wU := mU (tb1 (List.mem_of_getElem? (i := 123) (by decide +kernel))) rfl
theorem mF_RX4_19 : Cond.fieldLink RX4 19 "LibraryCirculation" "saved" "LLibraryCirculation$State;" ∈ wU := mU (tb1 (List.mem_of_getElem? (i := 124) (by decide +kernel))) rfl
theorem mF_RX4_22 : Cond.fieldLink RX4 22 "LibraryCirculation" "hasSaved" "Z" ∈ wU := mU (tb1 (List.mem_of_getElem? (i := 125) (by decide +kernel))) rfl
theorem mF_RX4_29 : Cond.fieldLink RX4 29 "LibraryCirculation" "history" "LLibraryCirculation$History;" ∈ wU := mU (tb1 (List.mem_of_getElem? (i := 126) (by decide +kernel))) rfl
theorem mF_RX4_36 : Cond.fieldLink RX4 36 "LibraryCirculation" "text" "LLibraryCirculation$CommandText;" ∈ wU := mU (tb1 (List.mem_of_getElem? (i := 127) (by decide +kernel))) rfl
theorem mL_RL_13 : Cond.methodLink RL 13 yX4_addCopy ∈ wU := mU (tb1 (List.mem_of_getElem? (i := 141) (by decide +kernel))) rfl
theorem mI_X4_addCopy : Cond.instanceMethod yX4_addCopy ∈ wU := mU (tb1 (List.mem_of_getElem? (i := 142) (by decide +kernel))) rfl
theorem mS_X4_addCopy : Cond.selects RX4 yX4_addCopy yX4_addCopy ∈ wU := mU (tb1 (List.mem_of_getElem? (i := 143) (by decide +kernel))) rfl
theorem mC_X4_addCopy : Cond.code yX4_addCopy cX4_addCopy 4 (some .int) ∈ wU := mU (tb1 (List.mem_of_getElem? (i := 144) (by decide +kernel))) rfl
theorem mL_RX4_40 : Cond.methodLink RX4 40 yX4_isTitle ∈ wU := mU (tb1 (List.mem_of_getElem? (i := 145) (by decide +kernel))) rfl
theorem mT_X4_isTitle : Cond.static yX4_isTitle ∈ wU := mU (tb1 (List.mem_of_getElem? (i := 146) (by decide +kernel))) rfl
theorem mC_X4_isTitle : Cond.code yX4_isTitle cX4_isTitle 1 (some .boolean) ∈ wU := mU (tb1 (List.mem_of_getElem? (i := 147) (by decide +kernel))) rfl
theorem mL_RX4_44 : Cond.methodLink RX4 44 yX4_isBranch ∈ wU := mU (tb1 (List.mem_of_getElem? (i := 148) (by decide +kernel))) rfl
theorem mT_X4_isBranch : Cond.static yX4_isBranch ∈ wU := mU (tb1 (List.mem_of_getElem? (i := 149) (by decide +kernel))) rfl
theorem mC_X4_isBranch : Cond.code yX4_isBranch cX4_isBranch 1 (some .boolean) ∈ wU := mU (tb1 (List.mem_of_getElem? (i := 150) (by decide +kernel))) rfl
theorem mL_RX4_51 : Cond.methodLink RX4 51 yX3_addRow ∈ wU := mU (tb1 (List.mem_of_getElem? (i := 151) (by decide +kernel))) rfl
theorem mL_RX4_57 : Cond.methodLink RX4 57 yX3_put ∈ wU := mU (tb1 (List.mem_of_getElem? (i := 152) (by decide +kernel))) rfl
theorem mL_RX4_61 : Cond.methodLink RX4 61 yX4_becomeFree ∈ wU := mU (tb1 (List.mem_of_getElem? (i := 153) (by decide +kernel))) rfl
theorem mI_X4_becomeFree : Cond.instanceMethod yX4_becomeFree ∈ wU := mU (tb1 (List.mem_of_getElem? (i := 155) (by decide +kernel))) rfl
theorem mC_X4_becomeFree : Cond.code yX4_becomeFree cX4_becomeFree 6 none ∈ wU := mU (tb1 (List.mem_of_getElem? (i := 156) (by decide +kernel))) rfl
theorem mL_RX4_118 : Cond.methodLink RX4 118 yX4_titleOf ∈ wU := mU (tb1 (List.mem_of_getElem? (i := 157) (by decide +kernel))) rfl
theorem mI_X4_titleOf : Cond.instanceMethod yX4_titleOf ∈ wU := mU (tb1 (List.mem_of_getElem? (i := 159) (by decide +kernel))) rfl
theorem mC_X4_titleOf : Cond.code yX4_titleOf cX4_titleOf 2 (some .int) ∈ wU := mU (tb1 (List.mem_of_getElem? (i := 160) (by decide +kernel))) rfl
theorem mL_RX4_88 : Cond.methodLink RX4 88 yX3_get ∈ wU := mU (tb1 (List.mem_of_getElem? (i := 161) (by decide +kernel))) rfl
theorem mI_X3_get : Cond.instanceMethod yX3_get ∈ wU := mU (tb1 (List.mem_of_getElem? (i := 162) (by decide +kernel))) rfl
theorem mS_X3_get : Cond.selects RX3 yX3_get yX3_get ∈ wU := mU (tb1 (List.mem_of_getElem? (i := 163) (by decide +kernel))) rfl
theorem mC_X3_get : Cond.code yX3_get cX3_get 4 (some .int) ∈ wU := mU (tb1 (List.mem_of_getElem? (i := 164) (by decide +kernel))) rfl
theorem mL_RX4_173 : Cond.methodLink RX4 173 yX4_firstWaiting ∈ wU := mU (tb1 (List.mem_of_getElem? (i := 165) (by decide +kernel))) rfl
theorem mI_X4_firstWaiting : Cond.instanceMethod yX4_firstWaiting ∈ wU := mU (tb1 (List.mem_of_getElem? (i := 167) (by decide +kernel))) rfl
theorem mC_X4_firstWaiting : Cond.code yX4_firstWaiting cX4_firstWaiting 3 (some .int) ∈ wU := mU (tb1 (List.mem_of_getElem? (i := 168) (by decide +kernel))) rfl
theorem mL_RX4_92 : Cond.methodLink RX4 92 yX3_size ∈ wU := mU (tb1 (List.mem_of_getElem? (i := 169) (by decide +kernel))) rfl
theorem mI_X3_size : Cond.instanceMethod yX3_size ∈ wU := mU (tb1 (List.mem_of_getElem? (i := 170) (by decide +kernel))) rfl
theorem mS_X3_size : Cond.selects RX3 yX3_size yX3_size ∈ wU := mU (tb1 (List.mem_of_getElem? (i := 171) (by decide +kernel))) rfl
theorem mC_X3_size : Cond.code yX3_size cX3_size 1 (some .int) ∈ wU := mU (tb1 (List.mem_of_getElem? (i := 172) (by decide +kernel))) rfl
theorem mL_RX4_314 : Cond.methodLink RX4 314 yX4_isWaiting ∈ wU := mU (tb1 (List.mem_of_getElem? (i := 173) (by decide +kernel))) rfl
theorem mI_X4_isWaiting : Cond.instanceMethod yX4_isWaiting ∈ wU := mU (tb1 (List.mem_of_getElem? (i := 175) (by decide +kernel))) rfl
theorem mC_X4_isWaiting : Cond.code yX4_isWaiting cX4_isWaiting 3 (some .boolean) ∈ wU := mU (tb1 (List.mem_of_getElem? (i := 176) (by decide +kernel))) rfl
theorem mL_RX4_140 : Cond.methodLink RX4 140 yX4_putLoan ∈ wU := mU (tb1 (List.mem_of_getElem? (i := 177) (by decide +kernel))) rfl
theorem mI_X4_putLoan : Cond.instanceMethod yX4_putLoan ∈ wU := mU (tb1 (List.mem_of_getElem? (i := 179) (by decide +kernel))) rfl
theorem mC_X4_putLoan : Cond.code yX4_putLoan cX4_putLoan 5 none ∈ wU := mU (tb1 (List.mem_of_getElem? (i := 180) (by decide +kernel))) rfl
theorem mL_RX4_296 : Cond.methodLink RX4 296 yX4_wayBetween ∈ wU := mU (tb1 (List.mem_of_getElem? (i := 181) (by decide +kernel))) rfl
theorem mT_X4_wayBetween : Cond.static yX4_wayBetween ∈ wU := mU (tb1 (List.mem_of_getElem? (i := 182) (by decide +kernel))) rfl
theorem mC_X4_wayBetween : Cond.code yX4_wayBetween cX4_wayBetween 2 (some .int) ∈ wU := mU (tb1 (List.mem_of_getElem? (i := 183) (by decide +kernel))) rfl
theorem mL_RX4_299 : Cond.methodLink RX4 299 ⟨"java/lang/Math", "abs", "(I)I"⟩ ∈ wU := mU (tb1 (List.mem_of_getElem? (i := 184) (by decide +kernel))) rfl
theorem mT_J_abs_II : Cond.static ⟨"java/lang/Math", "abs", "(I)I"⟩ ∈ wU := mU (tb1 (List.mem_of_getElem? (i := 185) (by decide +kernel))) rfl
theorem mC_J_abs_II : Cond.code ⟨"java/lang/Math", "abs", "(I)I"⟩ prog_8_method_59_code 1 (some .int) ∈ wU := mU (tb1 (List.mem_of_getElem? (i := 186) (by decide +kernel))) rfl
theorem mL_RX4_114 : Cond.methodLink RX4 114 yX4_putCopy ∈ wU := mU (tb1 (List.mem_of_getElem? (i := 187) (by decide +kernel))) rfl
theorem mI_X4_putCopy : Cond.instanceMethod yX4_putCopy ∈ wU := mU (tb1 (List.mem_of_getElem? (i := 189) (by decide +kernel))) rfl
theorem mC_X4_putCopy : Cond.code yX4_putCopy cX4_putCopy 5 none ∈ wU := mU (tb1 (List.mem_of_getElem? (i := 190) (by decide +kernel))) rfl
theorem mL_RX4_82 : Cond.methodLink RX4 82 yX4_valueOf ∈ wU := mU (tb1 (List.mem_of_getElem? (i := 191) (by decide +kernel))) rfl
theorem mI_X4_valueOf : Cond.instanceMethod yX4_valueOf ∈ wU := mU (tb1 (List.mem_of_getElem? (i := 193) (by decide +kernel))) rfl
theorem mC_X4_valueOf : Cond.code yX4_valueOf cX4_valueOf 2 (some .int) ∈ wU := mU (tb1 (List.mem_of_getElem? (i := 194) (by decide +kernel))) rfl
theorem mL_RX4_65 : Cond.methodLink RX4 65 yX4_settle ∈ wU := mU (tb1 (List.mem_of_getElem? (i := 195) (by decide +kernel))) rfl
theorem mI_X4_settle : Cond.instanceMethod yX4_settle ∈ wU := mU (tb1 (List.mem_of_getElem? (i := 197) (by decide +kernel))) rfl
theorem mC_X4_settle : Cond.code yX4_settle cX4_settle 2 (some .int) ∈ wU := mU (tb1 (List.mem_of_getElem? (i := 198) (by decide +kernel))) rfl
theorem mL_RX4_182 : Cond.methodLink RX4 182 yX4_commit ∈ wU := mU (tb1 (List.mem_of_getElem? (i := 199) (by decide +kernel))) rfl
theorem mI_X4_commit : Cond.instanceMethod yX4_commit ∈ wU := mU (tb1 (List.mem_of_getElem? (i := 201) (by decide +kernel))) rfl
theorem mC_X4_commit : Cond.code yX4_commit cX4_commit 1 none ∈ wU := mU (tb1 (List.mem_of_getElem? (i := 202) (by decide +kernel))) rfl
theorem mL_RX4_286 : Cond.methodLink RX4 286 yX1_push ∈ wU := mU (tb1 (List.mem_of_getElem? (i := 203) (by decide +kernel))) rfl
theorem mI_X1_push : Cond.instanceMethod yX1_push ∈ wU := mU (tb1 (List.mem_of_getElem? (i := 204) (by decide +kernel))) rfl
theorem mS_X1_push : Cond.selects RX1 yX1_push yX1_push ∈ wU := mU (tb1 (List.mem_of_getElem? (i := 205) (by decide +kernel))) rfl
theorem mC_X1_push : Cond.code yX1_push cX1_push 3 none ∈ wU := mU (tb1 (List.mem_of_getElem? (i := 206) (by decide +kernel))) rfl
theorem mL_RX1_25 : Cond.methodLink RX1 25 yX1_at ∈ wU := mU (tb1 (List.mem_of_getElem? (i := 207) (by decide +kernel))) rfl
theorem mI_X1_at : Cond.instanceMethod yX1_at ∈ wU := mU (tb1 (List.mem_of_getElem? (i := 209) (by decide +kernel))) rfl
theorem mC_X1_at : Cond.code yX1_at cX1_at 2 (some (.object "LibraryCirculation$State")) ∈ wU := mU (tb1 (List.mem_of_getElem? (i := 210) (by decide +kernel))) rfl
theorem mL_RX1_29 : Cond.methodLink RX1 29 yX2_copyFrom ∈ wU := mU (tb1 (List.mem_of_getElem? (i := 211) (by decide +kernel))) rfl
theorem mI_X2_copyFrom : Cond.instanceMethod yX2_copyFrom ∈ wU := mU (tb1 (List.mem_of_getElem? (i := 212) (by decide +kernel))) rfl
theorem mS_X2_copyFrom : Cond.selects RX2 yX2_copyFrom yX2_copyFrom ∈ wU := mU (tb1 (List.mem_of_getElem? (i := 213) (by decide +kernel))) rfl
theorem mC_X2_copyFrom : Cond.code yX2_copyFrom cX2_copyFrom 2 none ∈ wU := mU (tb1 (List.mem_of_getElem? (i := 214) (by decide +kernel))) rfl
theorem mL_RX2_48 : Cond.methodLink RX2 48 yX3_overwriteWith ∈ wU := mU (tb1 (List.mem_of_getElem? (i := 215) (by decide +kernel))) rfl
theorem mI_X3_overwriteWith : Cond.instanceMethod yX3_overwriteWith ∈ wU := mU (tb1 (List.mem_of_getElem? (i := 216) (by decide +kernel))) rfl
theorem mS_X3_overwriteWith : Cond.selects RX3 yX3_overwriteWith yX3_overwriteWith ∈ wU := mU (tb1 (List.mem_of_getElem? (i := 217) (by decide +kernel))) rfl
theorem mC_X3_overwriteWith : Cond.code yX3_overwriteWith cX3_overwriteWith 2 none ∈ wU := mU (tb1 (List.mem_of_getElem? (i := 218) (by decide +kernel))) rfl
theorem mL_RX3_42 : Cond.methodLink RX3 42 ⟨"java/lang/Math", "min", "(II)I"⟩ ∈ wU := mU (tb1 (List.mem_of_getElem? (i := 219) (by decide +kernel))) rfl
theorem mT_J_min_III : Cond.static ⟨"java/lang/Math", "min", "(II)I"⟩ ∈ wU := mU (tb1 (List.mem_of_getElem? (i := 220) (by decide +kernel))) rfl
theorem mC_J_min_III : Cond.code ⟨"java/lang/Math", "min", "(II)I"⟩ prog_8_method_69_code 2 (some .int) ∈ wU := mU (tb1 (List.mem_of_getElem? (i := 221) (by decide +kernel))) rfl
theorem mL_RX3_45 : Cond.methodLink RX3 45 arraycopyName ∈ wU := mU (tb1 (List.mem_of_getElem? (i := 222) (by decide +kernel))) rfl
theorem mT_arraycopy : Cond.static arraycopyName ∈ wU := mU (tb1 (List.mem_of_getElem? (i := 223) (by decide +kernel))) rfl
theorem mV_arraycopy : Cond.native arraycopyName ∈ wU := mU (tb1 (List.mem_of_getElem? (i := 224) (by decide +kernel))) rfl
theorem mL_RX1_33 : Cond.methodLink RX1 33 ⟨"java/lang/Math", "min", "(II)I"⟩ ∈ wU := mU (tb1 (List.mem_of_getElem? (i := 225) (by decide +kernel))) rfl
theorem mL_RX4_269 : Cond.methodLink RX4 269 yX2_copyFrom ∈ wU := mU (tb1 (List.mem_of_getElem? (i := 226) (by decide +kernel))) rfl
theorem mL_RL_18 : Cond.methodLink RL 18 yX4_addPatron ∈ wU := mU (tb1 (List.mem_of_getElem? (i := 227) (by decide +kernel))) rfl
theorem mI_X4_addPatron : Cond.instanceMethod yX4_addPatron ∈ wU := mU (tb1 (List.mem_of_getElem? (i := 228) (by decide +kernel))) rfl
theorem mS_X4_addPatron : Cond.selects RX4 yX4_addPatron yX4_addPatron ∈ wU := mU (tb1 (List.mem_of_getElem? (i := 229) (by decide +kernel))) rfl
theorem mC_X4_addPatron : Cond.code yX4_addPatron cX4_addPatron 2 (some .int) ∈ wU := mU (tb1 (List.mem_of_getElem? (i := 230) (by decide +kernel))) rfl
theorem mL_RL_23 : Cond.methodLink RL 23 yX4_set ∈ wU := mU (tb1 (List.mem_of_getElem? (i := 231) (by decide +kernel))) rfl
theorem mI_X4_set : Cond.instanceMethod yX4_set ∈ wU := mU (tb1 (List.mem_of_getElem? (i := 232) (by decide +kernel))) rfl
theorem mS_X4_set : Cond.selects RX4 yX4_set yX4_set ∈ wU := mU (tb1 (List.mem_of_getElem? (i := 233) (by decide +kernel))) rfl
theorem mC_X4_set : Cond.code yX4_set cX4_set 4 (some .int) ∈ wU := mU (tb1 (List.mem_of_getElem? (i := 234) (by decide +kernel))) rfl
theorem mL_RX4_75 : Cond.methodLink RX4 75 yX3_has ∈ wU := mU (tb1 (List.mem_of_getElem? (i := 235) (by decide +kernel))) rfl
theorem mI_X3_has : Cond.instanceMethod yX3_has ∈ wU := mU (tb1 (List.mem_of_getElem? (i := 236) (by decide +kernel))) rfl
theorem mS_X3_has : Cond.selects RX3 yX3_has yX3_has ∈ wU := mU (tb1 (List.mem_of_getElem? (i := 237) (by decide +kernel))) rfl
theorem mC_X3_has : Cond.code yX3_has cX3_has 2 (some .boolean) ∈ wU := mU (tb1 (List.mem_of_getElem? (i := 238) (by decide +kernel))) rfl
theorem mL_RX4_78 : Cond.methodLink RX4 78 yX4_isInRange ∈ wU := mU (tb1 (List.mem_of_getElem? (i := 239) (by decide +kernel))) rfl
theorem mT_X4_isInRange : Cond.static yX4_isInRange ∈ wU := mU (tb2 (List.mem_of_getElem? (i := 0) (by decide +kernel))) rfl
theorem mC_X4_isInRange : Cond.code yX4_isInRange cX4_isInRange 2 (some .boolean) ∈ wU := mU (tb2 (List.mem_of_getElem? (i := 1) (by decide +kernel))) rfl
theorem mF_RX4_289 : Cond.fieldLink RX4 289 "LibraryCirculation" "LOWEST_VALUES" "[I" ∈ wU := mU (tb2 (List.mem_of_getElem? (i := 2) (by decide +kernel))) rfl
theorem mF_RX4_293 : Cond.fieldLink RX4 293 "LibraryCirculation" "HIGHEST_VALUES" "[I" ∈ wU := mU (tb2 (List.mem_of_getElem? (i := 4) (by decide +kernel))) rfl
theorem mL_RL_27 : Cond.methodLink RL 27 yX4_setting ∈ wU := mU (tb2 (List.mem_of_getElem? (i := 6) (by decide +kernel))) rfl
theorem mI_X4_setting : Cond.instanceMethod yX4_setting ∈ wU := mU (tb2 (List.mem_of_getElem? (i := 7) (by decide +kernel))) rfl
theorem mS_X4_setting : Cond.selects RX4 yX4_setting yX4_setting ∈ wU := mU (tb2 (List.mem_of_getElem? (i := 8) (by decide +kernel))) rfl
theorem mC_X4_setting : Cond.code yX4_setting cX4_setting 2 (some .int) ∈ wU := mU (tb2 (List.mem_of_getElem? (i := 9) (by decide +kernel))) rfl
theorem mL_RL_32 : Cond.methodLink RL 32 yX4_setFloating ∈ wU := mU (tb2 (List.mem_of_getElem? (i := 10) (by decide +kernel))) rfl
theorem mI_X4_setFloating : Cond.instanceMethod yX4_setFloating ∈ wU := mU (tb2 (List.mem_of_getElem? (i := 11) (by decide +kernel))) rfl
theorem mS_X4_setFloating : Cond.selects RX4 yX4_setFloating yX4_setFloating ∈ wU := mU (tb2 (List.mem_of_getElem? (i := 12) (by decide +kernel))) rfl
theorem mC_X4_setFloating : Cond.code yX4_setFloating cX4_setFloating 4 (some .int) ∈ wU := mU (tb2 (List.mem_of_getElem? (i := 13) (by decide +kernel))) rfl
theorem mL_RX4_85 : Cond.methodLink RX4 85 yX4_isCopy ∈ wU := mU (tb2 (List.mem_of_getElem? (i := 14) (by decide +kernel))) rfl
theorem mI_X4_isCopy : Cond.instanceMethod yX4_isCopy ∈ wU := mU (tb2 (List.mem_of_getElem? (i := 16) (by decide +kernel))) rfl
theorem mC_X4_isCopy : Cond.code yX4_isCopy cX4_isCopy 2 (some .boolean) ∈ wU := mU (tb2 (List.mem_of_getElem? (i := 17) (by decide +kernel))) rfl
theorem mL_RL_37 : Cond.methodLink RL 37 yX4_copyCount ∈ wU := mU (tb2 (List.mem_of_getElem? (i := 18) (by decide +kernel))) rfl
theorem mI_X4_copyCount : Cond.instanceMethod yX4_copyCount ∈ wU := mU (tb2 (List.mem_of_getElem? (i := 19) (by decide +kernel))) rfl
theorem mS_X4_copyCount : Cond.selects RX4 yX4_copyCount yX4_copyCount ∈ wU := mU (tb2 (List.mem_of_getElem? (i := 20) (by decide +kernel))) rfl
theorem mC_X4_copyCount : Cond.code yX4_copyCount cX4_copyCount 4 (some .int) ∈ wU := mU (tb2 (List.mem_of_getElem? (i := 21) (by decide +kernel))) rfl
theorem mL_RX4_95 : Cond.methodLink RX4 95 yX4_stateOf ∈ wU := mU (tb2 (List.mem_of_getElem? (i := 22) (by decide +kernel))) rfl
theorem mI_X4_stateOf : Cond.instanceMethod yX4_stateOf ∈ wU := mU (tb2 (List.mem_of_getElem? (i := 24) (by decide +kernel))) rfl
theorem mC_X4_stateOf : Cond.code yX4_stateOf cX4_stateOf 2 (some .int) ∈ wU := mU (tb2 (List.mem_of_getElem? (i := 25) (by decide +kernel))) rfl
theorem mL_RL_41 : Cond.methodLink RL 41 yX4_copy ∈ wU := mU (tb2 (List.mem_of_getElem? (i := 26) (by decide +kernel))) rfl
theorem mI_X4_copy : Cond.instanceMethod yX4_copy ∈ wU := mU (tb2 (List.mem_of_getElem? (i := 27) (by decide +kernel))) rfl
theorem mS_X4_copy : Cond.selects RX4 yX4_copy yX4_copy ∈ wU := mU (tb2 (List.mem_of_getElem? (i := 28) (by decide +kernel))) rfl
theorem mC_X4_copy : Cond.code yX4_copy cX4_copy 3 (some .int) ∈ wU := mU (tb2 (List.mem_of_getElem? (i := 29) (by decide +kernel))) rfl
theorem mL_RL_45 : Cond.methodLink RL 45 yX4_day ∈ wU := mU (tb2 (List.mem_of_getElem? (i := 30) (by decide +kernel))) rfl
theorem mI_X4_day : Cond.instanceMethod yX4_day ∈ wU := mU (tb2 (List.mem_of_getElem? (i := 31) (by decide +kernel))) rfl
theorem mS_X4_day : Cond.selects RX4 yX4_day yX4_day ∈ wU := mU (tb2 (List.mem_of_getElem? (i := 32) (by decide +kernel))) rfl
theorem mC_X4_day : Cond.code yX4_day cX4_day 1 (some .int) ∈ wU := mU (tb2 (List.mem_of_getElem? (i := 33) (by decide +kernel))) rfl
theorem mL_RL_49 : Cond.methodLink RL 49 yX4_pass ∈ wU := mU (tb2 (List.mem_of_getElem? (i := 34) (by decide +kernel))) rfl
theorem mI_X4_pass : Cond.instanceMethod yX4_pass ∈ wU := mU (tb2 (List.mem_of_getElem? (i := 35) (by decide +kernel))) rfl
theorem mS_X4_pass : Cond.selects RX4 yX4_pass yX4_pass ∈ wU := mU (tb2 (List.mem_of_getElem? (i := 36) (by decide +kernel))) rfl
theorem mC_X4_pass : Cond.code yX4_pass cX4_pass 2 (some .int) ∈ wU := mU (tb2 (List.mem_of_getElem? (i := 37) (by decide +kernel))) rfl
theorem mL_RX4_102 : Cond.methodLink RX4 102 yX4_letPass ∈ wU := mU (tb2 (List.mem_of_getElem? (i := 38) (by decide +kernel))) rfl
theorem mI_X4_letPass : Cond.instanceMethod yX4_letPass ∈ wU := mU (tb2 (List.mem_of_getElem? (i := 40) (by decide +kernel))) rfl
theorem mC_X4_letPass : Cond.code yX4_letPass cX4_letPass 3 (some .int) ∈ wU := mU (tb2 (List.mem_of_getElem? (i := 41) (by decide +kernel))) rfl
theorem mL_RX4_105 : Cond.methodLink RX4 105 yX4_arriveOnThisDay ∈ wU := mU (tb2 (List.mem_of_getElem? (i := 42) (by decide +kernel))) rfl
theorem mI_X4_arriveOnThisDay : Cond.instanceMethod yX4_arriveOnThisDay ∈ wU := mU (tb2 (List.mem_of_getElem? (i := 44) (by decide +kernel))) rfl
theorem mC_X4_arriveOnThisDay : Cond.code yX4_arriveOnThisDay cX4_arriveOnThisDay 3 none ∈ wU := mU (tb2 (List.mem_of_getElem? (i := 45) (by decide +kernel))) rfl
theorem mL_RX4_108 : Cond.methodLink RX4 108 yX4_expireBeforeThisDay ∈ wU := mU (tb2 (List.mem_of_getElem? (i := 46) (by decide +kernel))) rfl
theorem mI_X4_expireBeforeThisDay : Cond.instanceMethod yX4_expireBeforeThisDay ∈ wU := mU (tb2 (List.mem_of_getElem? (i := 48) (by decide +kernel))) rfl
theorem mC_X4_expireBeforeThisDay : Cond.code yX4_expireBeforeThisDay cX4_expireBeforeThisDay 2 none ∈ wU := mU (tb2 (List.mem_of_getElem? (i := 49) (by decide +kernel))) rfl
theorem mL_RX4_121 : Cond.methodLink RX4 121 yX4_findHold ∈ wU := mU (tb2 (List.mem_of_getElem? (i := 50) (by decide +kernel))) rfl
theorem mI_X4_findHold : Cond.instanceMethod yX4_findHold ∈ wU := mU (tb2 (List.mem_of_getElem? (i := 52) (by decide +kernel))) rfl
theorem mC_X4_findHold : Cond.code yX4_findHold cX4_findHold 4 (some .int) ∈ wU := mU (tb2 (List.mem_of_getElem? (i := 53) (by decide +kernel))) rfl
theorem mL_RX4_124 : Cond.methodLink RX4 124 yX4_removeHold ∈ wU := mU (tb2 (List.mem_of_getElem? (i := 54) (by decide +kernel))) rfl
theorem mI_X4_removeHold : Cond.instanceMethod yX4_removeHold ∈ wU := mU (tb2 (List.mem_of_getElem? (i := 56) (by decide +kernel))) rfl
theorem mC_X4_removeHold : Cond.code yX4_removeHold cX4_removeHold 3 none ∈ wU := mU (tb2 (List.mem_of_getElem? (i := 57) (by decide +kernel))) rfl
theorem mL_RX4_311 : Cond.methodLink RX4 311 yX3_removeRow ∈ wU := mU (tb2 (List.mem_of_getElem? (i := 58) (by decide +kernel))) rfl
theorem mI_X3_removeRow : Cond.instanceMethod yX3_removeRow ∈ wU := mU (tb2 (List.mem_of_getElem? (i := 59) (by decide +kernel))) rfl
theorem mS_X3_removeRow : Cond.selects RX3 yX3_removeRow yX3_removeRow ∈ wU := mU (tb2 (List.mem_of_getElem? (i := 60) (by decide +kernel))) rfl
theorem mC_X3_removeRow : Cond.code yX3_removeRow cX3_removeRow 4 none ∈ wU := mU (tb2 (List.mem_of_getElem? (i := 61) (by decide +kernel))) rfl
theorem mL_RX3_35 : Cond.methodLink RX3 35 yX3_has ∈ wU := mU (tb2 (List.mem_of_getElem? (i := 62) (by decide +kernel))) rfl
theorem mL_RX3_39 : Cond.methodLink RX3 39 yX3_get ∈ wU := mU (tb2 (List.mem_of_getElem? (i := 63) (by decide +kernel))) rfl
theorem mL_RX4_111 : Cond.methodLink RX4 111 yX4_endClaims ∈ wU := mU (tb2 (List.mem_of_getElem? (i := 64) (by decide +kernel))) rfl
theorem mI_X4_endClaims : Cond.instanceMethod yX4_endClaims ∈ wU := mU (tb2 (List.mem_of_getElem? (i := 66) (by decide +kernel))) rfl
theorem mC_X4_endClaims : Cond.code yX4_endClaims cX4_endClaims 2 none ∈ wU := mU (tb2 (List.mem_of_getElem? (i := 67) (by decide +kernel))) rfl
theorem mL_RX4_128 : Cond.methodLink RX4 128 yX4_becomeLost ∈ wU := mU (tb2 (List.mem_of_getElem? (i := 68) (by decide +kernel))) rfl
theorem mI_X4_becomeLost : Cond.instanceMethod yX4_becomeLost ∈ wU := mU (tb2 (List.mem_of_getElem? (i := 70) (by decide +kernel))) rfl
theorem mC_X4_becomeLost : Cond.code yX4_becomeLost cX4_becomeLost 4 none ∈ wU := mU (tb2 (List.mem_of_getElem? (i := 71) (by decide +kernel))) rfl
theorem mL_RX4_161 : Cond.methodLink RX4 161 yX4_fineOf ∈ wU := mU (tb2 (List.mem_of_getElem? (i := 72) (by decide +kernel))) rfl
theorem mI_X4_fineOf : Cond.instanceMethod yX4_fineOf ∈ wU := mU (tb2 (List.mem_of_getElem? (i := 74) (by decide +kernel))) rfl
theorem mC_X4_fineOf : Cond.code yX4_fineOf cX4_fineOf 4 (some .int) ∈ wU := mU (tb2 (List.mem_of_getElem? (i := 75) (by decide +kernel))) rfl
theorem mL_RX4_317 : Cond.methodLink RX4 317 ⟨"java/lang/Math", "min", "(JJ)J"⟩ ∈ wU := mU (tb2 (List.mem_of_getElem? (i := 76) (by decide +kernel))) rfl
theorem mT_J_min_JJJ : Cond.static ⟨"java/lang/Math", "min", "(JJ)J"⟩ ∈ wU := mU (tb2 (List.mem_of_getElem? (i := 77) (by decide +kernel))) rfl
theorem mC_J_min_JJJ : Cond.code ⟨"java/lang/Math", "min", "(JJ)J"⟩ prog_8_method_70_code 4 (some .long) ∈ wU := mU (tb2 (List.mem_of_getElem? (i := 78) (by decide +kernel))) rfl
theorem mL_RX4_164 : Cond.methodLink RX4 164 yX4_enter ∈ wU := mU (tb2 (List.mem_of_getElem? (i := 79) (by decide +kernel))) rfl
theorem mI_X4_enter : Cond.instanceMethod yX4_enter ∈ wU := mU (tb2 (List.mem_of_getElem? (i := 81) (by decide +kernel))) rfl
theorem mC_X4_enter : Cond.code yX4_enter cX4_enter 7 none ∈ wU := mU (tb2 (List.mem_of_getElem? (i := 82) (by decide +kernel))) rfl
theorem mL_RL_53 : Cond.methodLink RL 53 yX4_lend ∈ wU := mU (tb2 (List.mem_of_getElem? (i := 83) (by decide +kernel))) rfl
theorem mI_X4_lend : Cond.instanceMethod yX4_lend ∈ wU := mU (tb2 (List.mem_of_getElem? (i := 84) (by decide +kernel))) rfl
theorem mS_X4_lend : Cond.selects RX4 yX4_lend yX4_lend ∈ wU := mU (tb2 (List.mem_of_getElem? (i := 85) (by decide +kernel))) rfl
theorem mC_X4_lend : Cond.code yX4_lend cX4_lend 3 (some .int) ∈ wU := mU (tb2 (List.mem_of_getElem? (i := 86) (by decide +kernel))) rfl
theorem mL_RX4_131 : Cond.methodLink RX4 131 yX4_lendOut ∈ wU := mU (tb2 (List.mem_of_getElem? (i := 87) (by decide +kernel))) rfl
theorem mI_X4_lendOut : Cond.instanceMethod yX4_lendOut ∈ wU := mU (tb2 (List.mem_of_getElem? (i := 89) (by decide +kernel))) rfl
theorem mC_X4_lendOut : Cond.code yX4_lendOut cX4_lendOut 5 (some .int) ∈ wU := mU (tb2 (List.mem_of_getElem? (i := 90) (by decide +kernel))) rfl
theorem mL_RX4_134 : Cond.methodLink RX4 134 yX4_reasonAgainstLending ∈ wU := mU (tb2 (List.mem_of_getElem? (i := 91) (by decide +kernel))) rfl
theorem mI_X4_reasonAgainstLending : Cond.instanceMethod yX4_reasonAgainstLending ∈ wU := mU (tb2 (List.mem_of_getElem? (i := 93) (by decide +kernel))) rfl
theorem mC_X4_reasonAgainstLending : Cond.code yX4_reasonAgainstLending cX4_reasonAgainstLending 3 (some .int) ∈ wU := mU (tb2 (List.mem_of_getElem? (i := 94) (by decide +kernel))) rfl
theorem mL_RX4_143 : Cond.methodLink RX4 143 yX4_isPatron ∈ wU := mU (tb2 (List.mem_of_getElem? (i := 95) (by decide +kernel))) rfl
theorem mI_X4_isPatron : Cond.instanceMethod yX4_isPatron ∈ wU := mU (tb2 (List.mem_of_getElem? (i := 97) (by decide +kernel))) rfl
theorem mC_X4_isPatron : Cond.code yX4_isPatron cX4_isPatron 2 (some .boolean) ∈ wU := mU (tb2 (List.mem_of_getElem? (i := 98) (by decide +kernel))) rfl
theorem mL_RX4_146 : Cond.methodLink RX4 146 yX4_owesTheLimit ∈ wU := mU (tb2 (List.mem_of_getElem? (i := 99) (by decide +kernel))) rfl
theorem mI_X4_owesTheLimit : Cond.instanceMethod yX4_owesTheLimit ∈ wU := mU (tb2 (List.mem_of_getElem? (i := 101) (by decide +kernel))) rfl
theorem mC_X4_owesTheLimit : Cond.code yX4_owesTheLimit cX4_owesTheLimit 2 (some .boolean) ∈ wU := mU (tb2 (List.mem_of_getElem? (i := 102) (by decide +kernel))) rfl
theorem mL_RX4_149 : Cond.methodLink RX4 149 yX4_loanCount ∈ wU := mU (tb2 (List.mem_of_getElem? (i := 103) (by decide +kernel))) rfl
theorem mI_X4_loanCount : Cond.instanceMethod yX4_loanCount ∈ wU := mU (tb2 (List.mem_of_getElem? (i := 105) (by decide +kernel))) rfl
theorem mC_X4_loanCount : Cond.code yX4_loanCount cX4_loanCount 4 (some .int) ∈ wU := mU (tb2 (List.mem_of_getElem? (i := 106) (by decide +kernel))) rfl
theorem mL_RX4_231 : Cond.methodLink RX4 231 yX4_isAt ∈ wU := mU (tb2 (List.mem_of_getElem? (i := 107) (by decide +kernel))) rfl
theorem mI_X4_isAt : Cond.instanceMethod yX4_isAt ∈ wU := mU (tb2 (List.mem_of_getElem? (i := 109) (by decide +kernel))) rfl
theorem mC_X4_isAt : Cond.code yX4_isAt cX4_isAt 4 (some .boolean) ∈ wU := mU (tb2 (List.mem_of_getElem? (i := 110) (by decide +kernel))) rfl
theorem mL_RX4_152 : Cond.methodLink RX4 152 yX4_canBeTakenBy ∈ wU := mU (tb2 (List.mem_of_getElem? (i := 111) (by decide +kernel))) rfl
theorem mI_X4_canBeTakenBy : Cond.instanceMethod yX4_canBeTakenBy ∈ wU := mU (tb2 (List.mem_of_getElem? (i := 113) (by decide +kernel))) rfl
theorem mC_X4_canBeTakenBy : Cond.code yX4_canBeTakenBy cX4_canBeTakenBy 4 (some .boolean) ∈ wU := mU (tb2 (List.mem_of_getElem? (i := 114) (by decide +kernel))) rfl
theorem mL_RX4_137 : Cond.methodLink RX4 137 yX4_refusal ∈ wU := mU (tb2 (List.mem_of_getElem? (i := 115) (by decide +kernel))) rfl
theorem mT_X4_refusal : Cond.static yX4_refusal ∈ wU := mU (tb2 (List.mem_of_getElem? (i := 116) (by decide +kernel))) rfl
theorem mC_X4_refusal : Cond.code yX4_refusal cX4_refusal 1 (some .int) ∈ wU := mU (tb2 (List.mem_of_getElem? (i := 117) (by decide +kernel))) rfl
theorem mL_RL_57 : Cond.methodLink RL 57 yX4_bringBack ∈ wU := mU (tb2 (List.mem_of_getElem? (i := 118) (by decide +kernel))) rfl
theorem mI_X4_bringBack : Cond.instanceMethod yX4_bringBack ∈ wU := mU (tb2 (List.mem_of_getElem? (i := 119) (by decide +kernel))) rfl
theorem mS_X4_bringBack : Cond.selects RX4 yX4_bringBack yX4_bringBack ∈ wU := mU (tb2 (List.mem_of_getElem? (i := 120) (by decide +kernel))) rfl
theorem mC_X4_bringBack : Cond.code yX4_bringBack cX4_bringBack 3 (some .int) ∈ wU := mU (tb2 (List.mem_of_getElem? (i := 121) (by decide +kernel))) rfl
theorem mL_RX4_155 : Cond.methodLink RX4 155 yX4_takeBack ∈ wU := mU (tb2 (List.mem_of_getElem? (i := 122) (by decide +kernel))) rfl
theorem mI_X4_takeBack : Cond.instanceMethod yX4_takeBack ∈ wU := mU (tb2 (List.mem_of_getElem? (i := 124) (by decide +kernel))) rfl
theorem mC_X4_takeBack : Cond.code yX4_takeBack cX4_takeBack 6 (some .int) ∈ wU := mU (tb2 (List.mem_of_getElem? (i := 125) (by decide +kernel))) rfl
theorem mL_RX4_158 : Cond.methodLink RX4 158 yX4_isWithPatron ∈ wU := mU (tb2 (List.mem_of_getElem? (i := 126) (by decide +kernel))) rfl
theorem mI_X4_isWithPatron : Cond.instanceMethod yX4_isWithPatron ∈ wU := mU (tb2 (List.mem_of_getElem? (i := 128) (by decide +kernel))) rfl
theorem mC_X4_isWithPatron : Cond.code yX4_isWithPatron cX4_isWithPatron 3 (some .boolean) ∈ wU := mU (tb2 (List.mem_of_getElem? (i := 129) (by decide +kernel))) rfl
theorem mL_RL_61 : Cond.methodLink RL 61 yX4_renew ∈ wU := mU (tb2 (List.mem_of_getElem? (i := 130) (by decide +kernel))) rfl
theorem mI_X4_renew : Cond.instanceMethod yX4_renew ∈ wU := mU (tb2 (List.mem_of_getElem? (i := 131) (by decide +kernel))) rfl
theorem mS_X4_renew : Cond.selects RX4 yX4_renew yX4_renew ∈ wU := mU (tb2 (List.mem_of_getElem? (i := 132) (by decide +kernel))) rfl
theorem mC_X4_renew : Cond.code yX4_renew cX4_renew 2 (some .int) ∈ wU := mU (tb2 (List.mem_of_getElem? (i := 133) (by decide +kernel))) rfl
theorem mL_RX4_167 : Cond.methodLink RX4 167 yX4_renewLoan ∈ wU := mU (tb2 (List.mem_of_getElem? (i := 134) (by decide +kernel))) rfl
theorem mI_X4_renewLoan : Cond.instanceMethod yX4_renewLoan ∈ wU := mU (tb2 (List.mem_of_getElem? (i := 136) (by decide +kernel))) rfl
theorem mC_X4_renewLoan : Cond.code yX4_renewLoan cX4_renewLoan 4 (some .int) ∈ wU := mU (tb2 (List.mem_of_getElem? (i := 137) (by decide +kernel))) rfl
theorem mL_RX4_170 : Cond.methodLink RX4 170 yX4_reasonAgainstRenewing ∈ wU := mU (tb2 (List.mem_of_getElem? (i := 138) (by decide +kernel))) rfl
theorem mI_X4_reasonAgainstRenewing : Cond.instanceMethod yX4_reasonAgainstRenewing ∈ wU := mU (tb2 (List.mem_of_getElem? (i := 140) (by decide +kernel))) rfl
theorem mC_X4_reasonAgainstRenewing : Cond.code yX4_reasonAgainstRenewing cX4_reasonAgainstRenewing 2 (some .int) ∈ wU := mU (tb2 (List.mem_of_getElem? (i := 141) (by decide +kernel))) rfl
theorem mL_RL_65 : Cond.methodLink RL 65 yX4_claim ∈ wU := mU (tb2 (List.mem_of_getElem? (i := 142) (by decide +kernel))) rfl
theorem mI_X4_claim : Cond.instanceMethod yX4_claim ∈ wU := mU (tb2 (List.mem_of_getElem? (i := 143) (by decide +kernel))) rfl
theorem mS_X4_claim : Cond.selects RX4 yX4_claim yX4_claim ∈ wU := mU (tb2 (List.mem_of_getElem? (i := 144) (by decide +kernel))) rfl
theorem mC_X4_claim : Cond.code yX4_claim cX4_claim 5 (some .int) ∈ wU := mU (tb2 (List.mem_of_getElem? (i := 145) (by decide +kernel))) rfl
theorem mL_RX4_176 : Cond.methodLink RX4 176 yX4_reasonAgainstClaiming ∈ wU := mU (tb2 (List.mem_of_getElem? (i := 146) (by decide +kernel))) rfl
theorem mI_X4_reasonAgainstClaiming : Cond.instanceMethod yX4_reasonAgainstClaiming ∈ wU := mU (tb2 (List.mem_of_getElem? (i := 148) (by decide +kernel))) rfl
theorem mC_X4_reasonAgainstClaiming : Cond.code yX4_reasonAgainstClaiming cX4_reasonAgainstClaiming 3 (some .int) ∈ wU := mU (tb2 (List.mem_of_getElem? (i := 149) (by decide +kernel))) rfl
theorem mL_RL_69 : Cond.methodLink RL 69 yX4_lose ∈ wU := mU (tb2 (List.mem_of_getElem? (i := 150) (by decide +kernel))) rfl
theorem mI_X4_lose : Cond.instanceMethod yX4_lose ∈ wU := mU (tb2 (List.mem_of_getElem? (i := 151) (by decide +kernel))) rfl
theorem mS_X4_lose : Cond.selects RX4 yX4_lose yX4_lose ∈ wU := mU (tb2 (List.mem_of_getElem? (i := 152) (by decide +kernel))) rfl
theorem mC_X4_lose : Cond.code yX4_lose cX4_lose 3 (some .int) ∈ wU := mU (tb2 (List.mem_of_getElem? (i := 153) (by decide +kernel))) rfl
theorem mL_RX4_179 : Cond.methodLink RX4 179 yX4_reasonAgainstLosing ∈ wU := mU (tb2 (List.mem_of_getElem? (i := 154) (by decide +kernel))) rfl
theorem mI_X4_reasonAgainstLosing : Cond.instanceMethod yX4_reasonAgainstLosing ∈ wU := mU (tb2 (List.mem_of_getElem? (i := 156) (by decide +kernel))) rfl
theorem mC_X4_reasonAgainstLosing : Cond.code yX4_reasonAgainstLosing cX4_reasonAgainstLosing 3 (some .int) ∈ wU := mU (tb2 (List.mem_of_getElem? (i := 157) (by decide +kernel))) rfl
theorem mL_RL_73 : Cond.methodLink RL 73 yX4_hold ∈ wU := mU (tb2 (List.mem_of_getElem? (i := 158) (by decide +kernel))) rfl
theorem mI_X4_hold : Cond.instanceMethod yX4_hold ∈ wU := mU (tb2 (List.mem_of_getElem? (i := 159) (by decide +kernel))) rfl
theorem mS_X4_hold : Cond.selects RX4 yX4_hold yX4_hold ∈ wU := mU (tb2 (List.mem_of_getElem? (i := 160) (by decide +kernel))) rfl
theorem mC_X4_hold : Cond.code yX4_hold cX4_hold 4 (some .int) ∈ wU := mU (tb2 (List.mem_of_getElem? (i := 161) (by decide +kernel))) rfl
theorem mL_RX4_185 : Cond.methodLink RX4 185 yX4_makeHold ∈ wU := mU (tb2 (List.mem_of_getElem? (i := 162) (by decide +kernel))) rfl
theorem mI_X4_makeHold : Cond.instanceMethod yX4_makeHold ∈ wU := mU (tb2 (List.mem_of_getElem? (i := 164) (by decide +kernel))) rfl
theorem mC_X4_makeHold : Cond.code yX4_makeHold cX4_makeHold 7 (some .int) ∈ wU := mU (tb2 (List.mem_of_getElem? (i := 165) (by decide +kernel))) rfl
theorem mL_RX4_189 : Cond.methodLink RX4 189 yX4_reasonAgainstHolding ∈ wU := mU (tb2 (List.mem_of_getElem? (i := 166) (by decide +kernel))) rfl
theorem mI_X4_reasonAgainstHolding : Cond.instanceMethod yX4_reasonAgainstHolding ∈ wU := mU (tb2 (List.mem_of_getElem? (i := 168) (by decide +kernel))) rfl
theorem mC_X4_reasonAgainstHolding : Cond.code yX4_reasonAgainstHolding cX4_reasonAgainstHolding 3 (some .int) ∈ wU := mU (tb2 (List.mem_of_getElem? (i := 169) (by decide +kernel))) rfl
theorem mL_RX4_204 : Cond.methodLink RX4 204 yX4_holdsOf ∈ wU := mU (tb2 (List.mem_of_getElem? (i := 170) (by decide +kernel))) rfl
theorem mI_X4_holdsOf : Cond.instanceMethod yX4_holdsOf ∈ wU := mU (tb2 (List.mem_of_getElem? (i := 172) (by decide +kernel))) rfl
theorem mC_X4_holdsOf : Cond.code yX4_holdsOf cX4_holdsOf 4 (some .int) ∈ wU := mU (tb2 (List.mem_of_getElem? (i := 173) (by decide +kernel))) rfl
theorem mL_RX4_207 : Cond.methodLink RX4 207 yX4_hasLoanOf ∈ wU := mU (tb2 (List.mem_of_getElem? (i := 174) (by decide +kernel))) rfl
theorem mI_X4_hasLoanOf : Cond.instanceMethod yX4_hasLoanOf ∈ wU := mU (tb2 (List.mem_of_getElem? (i := 176) (by decide +kernel))) rfl
theorem mC_X4_hasLoanOf : Cond.code yX4_hasLoanOf cX4_hasLoanOf 4 (some .boolean) ∈ wU := mU (tb2 (List.mem_of_getElem? (i := 177) (by decide +kernel))) rfl
theorem mL_RX4_195 : Cond.methodLink RX4 195 yX4_nearestOnShelf ∈ wU := mU (tb2 (List.mem_of_getElem? (i := 178) (by decide +kernel))) rfl
theorem mI_X4_nearestOnShelf : Cond.instanceMethod yX4_nearestOnShelf ∈ wU := mU (tb2 (List.mem_of_getElem? (i := 180) (by decide +kernel))) rfl
theorem mC_X4_nearestOnShelf : Cond.code yX4_nearestOnShelf cX4_nearestOnShelf 7 (some .int) ∈ wU := mU (tb2 (List.mem_of_getElem? (i := 181) (by decide +kernel))) rfl
theorem mL_RX4_198 : Cond.methodLink RX4 198 yX4_recallFor ∈ wU := mU (tb2 (List.mem_of_getElem? (i := 182) (by decide +kernel))) rfl
theorem mI_X4_recallFor : Cond.instanceMethod yX4_recallFor ∈ wU := mU (tb2 (List.mem_of_getElem? (i := 184) (by decide +kernel))) rfl
theorem mC_X4_recallFor : Cond.code yX4_recallFor cX4_recallFor 6 none ∈ wU := mU (tb2 (List.mem_of_getElem? (i := 185) (by decide +kernel))) rfl
theorem mL_RX4_302 : Cond.methodLink RX4 302 yX4_earliestNotRecalled ∈ wU := mU (tb2 (List.mem_of_getElem? (i := 186) (by decide +kernel))) rfl
theorem mI_X4_earliestNotRecalled : Cond.instanceMethod yX4_earliestNotRecalled ∈ wU := mU (tb2 (List.mem_of_getElem? (i := 188) (by decide +kernel))) rfl
theorem mC_X4_earliestNotRecalled : Cond.code yX4_earliestNotRecalled cX4_earliestNotRecalled 4 (some .int) ∈ wU := mU (tb2 (List.mem_of_getElem? (i := 189) (by decide +kernel))) rfl
theorem mL_RX4_222 : Cond.methodLink RX4 222 ⟨"java/lang/Math", "max", "(II)I"⟩ ∈ wU := mU (tb2 (List.mem_of_getElem? (i := 190) (by decide +kernel))) rfl
theorem mL_RX4_305 : Cond.methodLink RX4 305 ⟨"java/lang/Math", "min", "(II)I"⟩ ∈ wU := mU (tb2 (List.mem_of_getElem? (i := 191) (by decide +kernel))) rfl
theorem mL_RX4_201 : Cond.methodLink RX4 201 yX4_waitingBefore ∈ wU := mU (tb2 (List.mem_of_getElem? (i := 192) (by decide +kernel))) rfl
theorem mI_X4_waitingBefore : Cond.instanceMethod yX4_waitingBefore ∈ wU := mU (tb2 (List.mem_of_getElem? (i := 194) (by decide +kernel))) rfl
theorem mC_X4_waitingBefore : Cond.code yX4_waitingBefore cX4_waitingBefore 5 (some .int) ∈ wU := mU (tb2 (List.mem_of_getElem? (i := 195) (by decide +kernel))) rfl
theorem mL_RL_78 : Cond.methodLink RL 78 yX4_cancelHold ∈ wU := mU (tb2 (List.mem_of_getElem? (i := 196) (by decide +kernel))) rfl
theorem mI_X4_cancelHold : Cond.instanceMethod yX4_cancelHold ∈ wU := mU (tb2 (List.mem_of_getElem? (i := 197) (by decide +kernel))) rfl
theorem mS_X4_cancelHold : Cond.selects RX4 yX4_cancelHold yX4_cancelHold ∈ wU := mU (tb2 (List.mem_of_getElem? (i := 198) (by decide +kernel))) rfl
theorem mC_X4_cancelHold : Cond.code yX4_cancelHold cX4_cancelHold 3 (some .int) ∈ wU := mU (tb2 (List.mem_of_getElem? (i := 199) (by decide +kernel))) rfl
theorem mL_RX4_210 : Cond.methodLink RX4 210 yX4_dropHold ∈ wU := mU (tb2 (List.mem_of_getElem? (i := 200) (by decide +kernel))) rfl
theorem mI_X4_dropHold : Cond.instanceMethod yX4_dropHold ∈ wU := mU (tb2 (List.mem_of_getElem? (i := 202) (by decide +kernel))) rfl
theorem mC_X4_dropHold : Cond.code yX4_dropHold cX4_dropHold 5 (some .int) ∈ wU := mU (tb2 (List.mem_of_getElem? (i := 203) (by decide +kernel))) rfl
theorem mL_RX4_213 : Cond.methodLink RX4 213 yX4_holdsBefore ∈ wU := mU (tb2 (List.mem_of_getElem? (i := 204) (by decide +kernel))) rfl
theorem mI_X4_holdsBefore : Cond.instanceMethod yX4_holdsBefore ∈ wU := mU (tb2 (List.mem_of_getElem? (i := 206) (by decide +kernel))) rfl
theorem mC_X4_holdsBefore : Cond.code yX4_holdsBefore cX4_holdsBefore 5 (some .int) ∈ wU := mU (tb2 (List.mem_of_getElem? (i := 207) (by decide +kernel))) rfl
theorem mL_RL_82 : Cond.methodLink RL 82 yX4_reason ∈ wU := mU (tb2 (List.mem_of_getElem? (i := 208) (by decide +kernel))) rfl
theorem mI_X4_reason : Cond.instanceMethod yX4_reason ∈ wU := mU (tb2 (List.mem_of_getElem? (i := 209) (by decide +kernel))) rfl
theorem mS_X4_reason : Cond.selects RX4 yX4_reason yX4_reason ∈ wU := mU (tb2 (List.mem_of_getElem? (i := 210) (by decide +kernel))) rfl
theorem mC_X4_reason : Cond.code yX4_reason cX4_reason 4 (some .int) ∈ wU := mU (tb2 (List.mem_of_getElem? (i := 211) (by decide +kernel))) rfl
theorem mL_RL_86 : Cond.methodLink RL 86 yX4_holdCount ∈ wU := mU (tb2 (List.mem_of_getElem? (i := 212) (by decide +kernel))) rfl
theorem mI_X4_holdCount : Cond.instanceMethod yX4_holdCount ∈ wU := mU (tb2 (List.mem_of_getElem? (i := 213) (by decide +kernel))) rfl
theorem mS_X4_holdCount : Cond.selects RX4 yX4_holdCount yX4_holdCount ∈ wU := mU (tb2 (List.mem_of_getElem? (i := 214) (by decide +kernel))) rfl
theorem mC_X4_holdCount : Cond.code yX4_holdCount cX4_holdCount 2 (some .int) ∈ wU := mU (tb2 (List.mem_of_getElem? (i := 215) (by decide +kernel))) rfl
theorem mL_RL_90 : Cond.methodLink RL 90 yX4_waiting ∈ wU := mU (tb2 (List.mem_of_getElem? (i := 216) (by decide +kernel))) rfl
theorem mI_X4_waiting : Cond.instanceMethod yX4_waiting ∈ wU := mU (tb2 (List.mem_of_getElem? (i := 217) (by decide +kernel))) rfl
theorem mS_X4_waiting : Cond.selects RX4 yX4_waiting yX4_waiting ∈ wU := mU (tb2 (List.mem_of_getElem? (i := 218) (by decide +kernel))) rfl
theorem mC_X4_waiting : Cond.code yX4_waiting cX4_waiting 2 (some .int) ∈ wU := mU (tb2 (List.mem_of_getElem? (i := 219) (by decide +kernel))) rfl
theorem mL_RL_94 : Cond.methodLink RL 94 yX4_holdAt ∈ wU := mU (tb2 (List.mem_of_getElem? (i := 220) (by decide +kernel))) rfl
theorem mI_X4_holdAt : Cond.instanceMethod yX4_holdAt ∈ wU := mU (tb2 (List.mem_of_getElem? (i := 221) (by decide +kernel))) rfl
theorem mS_X4_holdAt : Cond.selects RX4 yX4_holdAt yX4_holdAt ∈ wU := mU (tb2 (List.mem_of_getElem? (i := 222) (by decide +kernel))) rfl
theorem mC_X4_holdAt : Cond.code yX4_holdAt cX4_holdAt 6 (some .int) ∈ wU := mU (tb2 (List.mem_of_getElem? (i := 223) (by decide +kernel))) rfl
theorem mL_RL_98 : Cond.methodLink RL 98 yX4_place ∈ wU := mU (tb2 (List.mem_of_getElem? (i := 224) (by decide +kernel))) rfl
theorem mI_X4_place : Cond.instanceMethod yX4_place ∈ wU := mU (tb2 (List.mem_of_getElem? (i := 225) (by decide +kernel))) rfl
theorem mS_X4_place : Cond.selects RX4 yX4_place yX4_place ∈ wU := mU (tb2 (List.mem_of_getElem? (i := 226) (by decide +kernel))) rfl
theorem mC_X4_place : Cond.code yX4_place cX4_place 4 (some .int) ∈ wU := mU (tb2 (List.mem_of_getElem? (i := 227) (by decide +kernel))) rfl
theorem mL_RL_102 : Cond.methodLink RL 102 yX4_estimate ∈ wU := mU (tb2 (List.mem_of_getElem? (i := 228) (by decide +kernel))) rfl
theorem mI_X4_estimate : Cond.instanceMethod yX4_estimate ∈ wU := mU (tb2 (List.mem_of_getElem? (i := 229) (by decide +kernel))) rfl
theorem mS_X4_estimate : Cond.selects RX4 yX4_estimate yX4_estimate ∈ wU := mU (tb2 (List.mem_of_getElem? (i := 230) (by decide +kernel))) rfl
theorem mC_X4_estimate : Cond.code yX4_estimate cX4_estimate 7 (some .int) ∈ wU := mU (tb2 (List.mem_of_getElem? (i := 231) (by decide +kernel))) rfl
theorem mL_RX4_216 : Cond.methodLink RX4 216 yX4_expectedDay ∈ wU := mU (tb2 (List.mem_of_getElem? (i := 232) (by decide +kernel))) rfl
theorem mI_X4_expectedDay : Cond.instanceMethod yX4_expectedDay ∈ wU := mU (tb2 (List.mem_of_getElem? (i := 234) (by decide +kernel))) rfl
theorem mC_X4_expectedDay : Cond.code yX4_expectedDay cX4_expectedDay 4 (some .int) ∈ wU := mU (tb2 (List.mem_of_getElem? (i := 235) (by decide +kernel))) rfl
theorem mL_RX4_219 : Cond.methodLink RX4 219 yX4_expectedBefore ∈ wU := mU (tb2 (List.mem_of_getElem? (i := 236) (by decide +kernel))) rfl
theorem mI_X4_expectedBefore : Cond.instanceMethod yX4_expectedBefore ∈ wU := mU (tb2 (List.mem_of_getElem? (i := 238) (by decide +kernel))) rfl
theorem mC_X4_expectedBefore : Cond.code yX4_expectedBefore cX4_expectedBefore 7 (some .int) ∈ wU := mU (tb2 (List.mem_of_getElem? (i := 239) (by decide +kernel))) rfl
theorem mL_RX4_227 : Cond.methodLink RX4 227 yX4_isBefore ∈ wU := mU (tb3 (List.mem_of_getElem? (i := 0) (by decide +kernel))) rfl
theorem mT_X4_isBefore : Cond.static yX4_isBefore ∈ wU := mU (tb3 (List.mem_of_getElem? (i := 1) (by decide +kernel))) rfl
theorem mC_X4_isBefore : Cond.code yX4_isBefore cX4_isBefore 4 (some .boolean) ∈ wU := mU (tb3 (List.mem_of_getElem? (i := 2) (by decide +kernel))) rfl
theorem mL_RL_106 : Cond.methodLink RL 106 yX4_patronCount ∈ wU := mU (tb3 (List.mem_of_getElem? (i := 3) (by decide +kernel))) rfl
theorem mI_X4_patronCount : Cond.instanceMethod yX4_patronCount ∈ wU := mU (tb3 (List.mem_of_getElem? (i := 4) (by decide +kernel))) rfl
theorem mS_X4_patronCount : Cond.selects RX4 yX4_patronCount yX4_patronCount ∈ wU := mU (tb3 (List.mem_of_getElem? (i := 5) (by decide +kernel))) rfl
theorem mC_X4_patronCount : Cond.code yX4_patronCount cX4_patronCount 1 (some .int) ∈ wU := mU (tb3 (List.mem_of_getElem? (i := 6) (by decide +kernel))) rfl
theorem mL_RL_110 : Cond.methodLink RL 110 yX4_owes ∈ wU := mU (tb3 (List.mem_of_getElem? (i := 7) (by decide +kernel))) rfl
theorem mI_X4_owes : Cond.instanceMethod yX4_owes ∈ wU := mU (tb3 (List.mem_of_getElem? (i := 8) (by decide +kernel))) rfl
theorem mS_X4_owes : Cond.selects RX4 yX4_owes yX4_owes ∈ wU := mU (tb3 (List.mem_of_getElem? (i := 9) (by decide +kernel))) rfl
theorem mC_X4_owes : Cond.code yX4_owes cX4_owes 2 (some .int) ∈ wU := mU (tb3 (List.mem_of_getElem? (i := 10) (by decide +kernel))) rfl
theorem mL_RL_114 : Cond.methodLink RL 114 yX4_accrued ∈ wU := mU (tb3 (List.mem_of_getElem? (i := 11) (by decide +kernel))) rfl
theorem mI_X4_accrued : Cond.instanceMethod yX4_accrued ∈ wU := mU (tb3 (List.mem_of_getElem? (i := 12) (by decide +kernel))) rfl
theorem mS_X4_accrued : Cond.selects RX4 yX4_accrued yX4_accrued ∈ wU := mU (tb3 (List.mem_of_getElem? (i := 13) (by decide +kernel))) rfl
theorem mC_X4_accrued : Cond.code yX4_accrued cX4_accrued 4 (some .int) ∈ wU := mU (tb3 (List.mem_of_getElem? (i := 14) (by decide +kernel))) rfl
theorem mL_RL_118 : Cond.methodLink RL 118 yX4_patron ∈ wU := mU (tb3 (List.mem_of_getElem? (i := 15) (by decide +kernel))) rfl
theorem mI_X4_patron : Cond.instanceMethod yX4_patron ∈ wU := mU (tb3 (List.mem_of_getElem? (i := 16) (by decide +kernel))) rfl
theorem mS_X4_patron : Cond.selects RX4 yX4_patron yX4_patron ∈ wU := mU (tb3 (List.mem_of_getElem? (i := 17) (by decide +kernel))) rfl
theorem mC_X4_patron : Cond.code yX4_patron cX4_patron 3 (some .int) ∈ wU := mU (tb3 (List.mem_of_getElem? (i := 18) (by decide +kernel))) rfl
theorem mL_RX4_235 : Cond.methodLink RX4 235 yX4_overdueCount ∈ wU := mU (tb3 (List.mem_of_getElem? (i := 19) (by decide +kernel))) rfl
theorem mI_X4_overdueCount : Cond.instanceMethod yX4_overdueCount ∈ wU := mU (tb3 (List.mem_of_getElem? (i := 21) (by decide +kernel))) rfl
theorem mC_X4_overdueCount : Cond.code yX4_overdueCount cX4_overdueCount 4 (some .int) ∈ wU := mU (tb3 (List.mem_of_getElem? (i := 22) (by decide +kernel))) rfl
theorem mL_RL_122 : Cond.methodLink RL 122 yX4_loanOf ∈ wU := mU (tb3 (List.mem_of_getElem? (i := 23) (by decide +kernel))) rfl
theorem mI_X4_loanOf : Cond.instanceMethod yX4_loanOf ∈ wU := mU (tb3 (List.mem_of_getElem? (i := 24) (by decide +kernel))) rfl
theorem mS_X4_loanOf : Cond.selects RX4 yX4_loanOf yX4_loanOf ∈ wU := mU (tb3 (List.mem_of_getElem? (i := 25) (by decide +kernel))) rfl
theorem mC_X4_loanOf : Cond.code yX4_loanOf cX4_loanOf 3 (some .int) ∈ wU := mU (tb3 (List.mem_of_getElem? (i := 26) (by decide +kernel))) rfl
theorem mL_RX4_238 : Cond.methodLink RX4 238 yX4_nextByDay ∈ wU := mU (tb3 (List.mem_of_getElem? (i := 27) (by decide +kernel))) rfl
theorem mI_X4_nextByDay : Cond.instanceMethod yX4_nextByDay ∈ wU := mU (tb3 (List.mem_of_getElem? (i := 29) (by decide +kernel))) rfl
theorem mC_X4_nextByDay : Cond.code yX4_nextByDay cX4_nextByDay 5 (some .int) ∈ wU := mU (tb3 (List.mem_of_getElem? (i := 30) (by decide +kernel))) rfl
theorem mL_RX4_308 : Cond.methodLink RX4 308 yX4_countBefore ∈ wU := mU (tb3 (List.mem_of_getElem? (i := 31) (by decide +kernel))) rfl
theorem mI_X4_countBefore : Cond.instanceMethod yX4_countBefore ∈ wU := mU (tb3 (List.mem_of_getElem? (i := 33) (by decide +kernel))) rfl
theorem mC_X4_countBefore : Cond.code yX4_countBefore cX4_countBefore 7 (some .int) ∈ wU := mU (tb3 (List.mem_of_getElem? (i := 34) (by decide +kernel))) rfl
theorem mL_RL_126 : Cond.methodLink RL 126 yX4_fine ∈ wU := mU (tb3 (List.mem_of_getElem? (i := 35) (by decide +kernel))) rfl
theorem mI_X4_fine : Cond.instanceMethod yX4_fine ∈ wU := mU (tb3 (List.mem_of_getElem? (i := 36) (by decide +kernel))) rfl
theorem mS_X4_fine : Cond.selects RX4 yX4_fine yX4_fine ∈ wU := mU (tb3 (List.mem_of_getElem? (i := 37) (by decide +kernel))) rfl
theorem mC_X4_fine : Cond.code yX4_fine cX4_fine 2 (some .int) ∈ wU := mU (tb3 (List.mem_of_getElem? (i := 38) (by decide +kernel))) rfl
theorem mL_RL_130 : Cond.methodLink RL 130 yX4_pay ∈ wU := mU (tb3 (List.mem_of_getElem? (i := 39) (by decide +kernel))) rfl
theorem mI_X4_pay : Cond.instanceMethod yX4_pay ∈ wU := mU (tb3 (List.mem_of_getElem? (i := 40) (by decide +kernel))) rfl
theorem mS_X4_pay : Cond.selects RX4 yX4_pay yX4_pay ∈ wU := mU (tb3 (List.mem_of_getElem? (i := 41) (by decide +kernel))) rfl
theorem mC_X4_pay : Cond.code yX4_pay cX4_pay 3 (some .int) ∈ wU := mU (tb3 (List.mem_of_getElem? (i := 42) (by decide +kernel))) rfl
theorem mL_RX4_241 : Cond.methodLink RX4 241 yX4_credit ∈ wU := mU (tb3 (List.mem_of_getElem? (i := 43) (by decide +kernel))) rfl
theorem mI_X4_credit : Cond.instanceMethod yX4_credit ∈ wU := mU (tb3 (List.mem_of_getElem? (i := 45) (by decide +kernel))) rfl
theorem mC_X4_credit : Cond.code yX4_credit cX4_credit 4 (some .int) ∈ wU := mU (tb3 (List.mem_of_getElem? (i := 46) (by decide +kernel))) rfl
theorem mL_RL_134 : Cond.methodLink RL 134 yX4_waive ∈ wU := mU (tb3 (List.mem_of_getElem? (i := 47) (by decide +kernel))) rfl
theorem mI_X4_waive : Cond.instanceMethod yX4_waive ∈ wU := mU (tb3 (List.mem_of_getElem? (i := 48) (by decide +kernel))) rfl
theorem mS_X4_waive : Cond.selects RX4 yX4_waive yX4_waive ∈ wU := mU (tb3 (List.mem_of_getElem? (i := 49) (by decide +kernel))) rfl
theorem mC_X4_waive : Cond.code yX4_waive cX4_waive 3 (some .int) ∈ wU := mU (tb3 (List.mem_of_getElem? (i := 50) (by decide +kernel))) rfl
theorem mL_RL_138 : Cond.methodLink RL 138 yX4_ledgerSize ∈ wU := mU (tb3 (List.mem_of_getElem? (i := 51) (by decide +kernel))) rfl
theorem mI_X4_ledgerSize : Cond.instanceMethod yX4_ledgerSize ∈ wU := mU (tb3 (List.mem_of_getElem? (i := 52) (by decide +kernel))) rfl
theorem mS_X4_ledgerSize : Cond.selects RX4 yX4_ledgerSize yX4_ledgerSize ∈ wU := mU (tb3 (List.mem_of_getElem? (i := 53) (by decide +kernel))) rfl
theorem mC_X4_ledgerSize : Cond.code yX4_ledgerSize cX4_ledgerSize 1 (some .int) ∈ wU := mU (tb3 (List.mem_of_getElem? (i := 54) (by decide +kernel))) rfl
theorem mL_RL_142 : Cond.methodLink RL 142 yX4_ledger ∈ wU := mU (tb3 (List.mem_of_getElem? (i := 55) (by decide +kernel))) rfl
theorem mI_X4_ledger : Cond.instanceMethod yX4_ledger ∈ wU := mU (tb3 (List.mem_of_getElem? (i := 56) (by decide +kernel))) rfl
theorem mS_X4_ledger : Cond.selects RX4 yX4_ledger yX4_ledger ∈ wU := mU (tb3 (List.mem_of_getElem? (i := 57) (by decide +kernel))) rfl
theorem mC_X4_ledger : Cond.code yX4_ledger cX4_ledger 3 (some .int) ∈ wU := mU (tb3 (List.mem_of_getElem? (i := 58) (by decide +kernel))) rfl
theorem mK_RX4_249 : Cond.constant RX4 249 (-2147483648) ∈ wU := mU (tb3 (List.mem_of_getElem? (i := 59) (by decide +kernel))) rfl
theorem mL_RL_146 : Cond.methodLink RL 146 yX4_ledgerSum ∈ wU := mU (tb3 (List.mem_of_getElem? (i := 60) (by decide +kernel))) rfl
theorem mI_X4_ledgerSum : Cond.instanceMethod yX4_ledgerSum ∈ wU := mU (tb3 (List.mem_of_getElem? (i := 61) (by decide +kernel))) rfl
theorem mS_X4_ledgerSum : Cond.selects RX4 yX4_ledgerSum yX4_ledgerSum ∈ wU := mU (tb3 (List.mem_of_getElem? (i := 62) (by decide +kernel))) rfl
theorem mC_X4_ledgerSum : Cond.code yX4_ledgerSum cX4_ledgerSum 6 (some .int) ∈ wU := mU (tb3 (List.mem_of_getElem? (i := 63) (by decide +kernel))) rfl
theorem mL_RL_150 : Cond.methodLink RL 150 yX4_shelf ∈ wU := mU (tb3 (List.mem_of_getElem? (i := 64) (by decide +kernel))) rfl
theorem mI_X4_shelf : Cond.instanceMethod yX4_shelf ∈ wU := mU (tb3 (List.mem_of_getElem? (i := 65) (by decide +kernel))) rfl
theorem mS_X4_shelf : Cond.selects RX4 yX4_shelf yX4_shelf ∈ wU := mU (tb3 (List.mem_of_getElem? (i := 66) (by decide +kernel))) rfl
theorem mC_X4_shelf : Cond.code yX4_shelf cX4_shelf 5 (some .int) ∈ wU := mU (tb3 (List.mem_of_getElem? (i := 67) (by decide +kernel))) rfl
theorem mL_RL_154 : Cond.methodLink RL 154 yX4_arriving ∈ wU := mU (tb3 (List.mem_of_getElem? (i := 68) (by decide +kernel))) rfl
theorem mI_X4_arriving : Cond.instanceMethod yX4_arriving ∈ wU := mU (tb3 (List.mem_of_getElem? (i := 69) (by decide +kernel))) rfl
theorem mS_X4_arriving : Cond.selects RX4 yX4_arriving yX4_arriving ∈ wU := mU (tb3 (List.mem_of_getElem? (i := 70) (by decide +kernel))) rfl
theorem mC_X4_arriving : Cond.code yX4_arriving cX4_arriving 3 (some .int) ∈ wU := mU (tb3 (List.mem_of_getElem? (i := 71) (by decide +kernel))) rfl
theorem mL_RL_158 : Cond.methodLink RL 158 yX4_feed ∈ wU := mU (tb3 (List.mem_of_getElem? (i := 72) (by decide +kernel))) rfl
theorem mI_X4_feed : Cond.instanceMethod yX4_feed ∈ wU := mU (tb3 (List.mem_of_getElem? (i := 73) (by decide +kernel))) rfl
theorem mS_X4_feed : Cond.selects RX4 yX4_feed yX4_feed ∈ wU := mU (tb3 (List.mem_of_getElem? (i := 74) (by decide +kernel))) rfl
theorem mC_X4_feed : Cond.code yX4_feed cX4_feed 2 (some .int) ∈ wU := mU (tb3 (List.mem_of_getElem? (i := 75) (by decide +kernel))) rfl
theorem mL_RX4_250 : Cond.methodLink RX4 250 yX0_append ∈ wU := mU (tb3 (List.mem_of_getElem? (i := 76) (by decide +kernel))) rfl
theorem mI_X0_append : Cond.instanceMethod yX0_append ∈ wU := mU (tb3 (List.mem_of_getElem? (i := 77) (by decide +kernel))) rfl
theorem mS_X0_append : Cond.selects RX0 yX0_append yX0_append ∈ wU := mU (tb3 (List.mem_of_getElem? (i := 78) (by decide +kernel))) rfl
theorem mC_X0_append : Cond.code yX0_append cX0_append 2 (some .int) ∈ wU := mU (tb3 (List.mem_of_getElem? (i := 79) (by decide +kernel))) rfl
theorem mL_RL_162 : Cond.methodLink RL 162 yX4_execute ∈ wU := mU (tb3 (List.mem_of_getElem? (i := 80) (by decide +kernel))) rfl
theorem mI_X4_execute : Cond.instanceMethod yX4_execute ∈ wU := mU (tb3 (List.mem_of_getElem? (i := 81) (by decide +kernel))) rfl
theorem mS_X4_execute : Cond.selects RX4 yX4_execute yX4_execute ∈ wU := mU (tb3 (List.mem_of_getElem? (i := 82) (by decide +kernel))) rfl
theorem mC_X4_execute : Cond.code yX4_execute cX4_execute 4 (some .int) ∈ wU := mU (tb3 (List.mem_of_getElem? (i := 83) (by decide +kernel))) rfl
theorem mL_RX4_253 : Cond.methodLink RX4 253 yX0_readAll ∈ wU := mU (tb3 (List.mem_of_getElem? (i := 84) (by decide +kernel))) rfl
theorem mI_X0_readAll : Cond.instanceMethod yX0_readAll ∈ wU := mU (tb3 (List.mem_of_getElem? (i := 85) (by decide +kernel))) rfl
theorem mS_X0_readAll : Cond.selects RX0 yX0_readAll yX0_readAll ∈ wU := mU (tb3 (List.mem_of_getElem? (i := 86) (by decide +kernel))) rfl
theorem mC_X0_readAll : Cond.code yX0_readAll cX0_readAll 2 (some .boolean) ∈ wU := mU (tb3 (List.mem_of_getElem? (i := 87) (by decide +kernel))) rfl
theorem mL_RX0_39 : Cond.methodLink RX0 39 yX3_removeAllRows ∈ wU := mU (tb3 (List.mem_of_getElem? (i := 88) (by decide +kernel))) rfl
theorem mI_X3_removeAllRows : Cond.instanceMethod yX3_removeAllRows ∈ wU := mU (tb3 (List.mem_of_getElem? (i := 89) (by decide +kernel))) rfl
theorem mS_X3_removeAllRows : Cond.selects RX3 yX3_removeAllRows yX3_removeAllRows ∈ wU := mU (tb3 (List.mem_of_getElem? (i := 90) (by decide +kernel))) rfl
theorem mC_X3_removeAllRows : Cond.code yX3_removeAllRows cX3_removeAllRows 1 none ∈ wU := mU (tb3 (List.mem_of_getElem? (i := 91) (by decide +kernel))) rfl
theorem mL_RX0_42 : Cond.methodLink RX0 42 yX0_readCommand ∈ wU := mU (tb3 (List.mem_of_getElem? (i := 92) (by decide +kernel))) rfl
theorem mI_X0_readCommand : Cond.instanceMethod yX0_readCommand ∈ wU := mU (tb3 (List.mem_of_getElem? (i := 94) (by decide +kernel))) rfl
theorem mC_X0_readCommand : Cond.code yX0_readCommand cX0_readCommand 5 (some .boolean) ∈ wU := mU (tb3 (List.mem_of_getElem? (i := 95) (by decide +kernel))) rfl
theorem mL_RX0_46 : Cond.methodLink RX0 46 yX0_letterAt ∈ wU := mU (tb3 (List.mem_of_getElem? (i := 96) (by decide +kernel))) rfl
theorem mI_X0_letterAt : Cond.instanceMethod yX0_letterAt ∈ wU := mU (tb3 (List.mem_of_getElem? (i := 98) (by decide +kernel))) rfl
theorem mC_X0_letterAt : Cond.code yX0_letterAt cX0_letterAt 2 (some .int) ∈ wU := mU (tb3 (List.mem_of_getElem? (i := 99) (by decide +kernel))) rfl
theorem mL_RX0_50 : Cond.methodLink RX0 50 yX0_numbersOf ∈ wU := mU (tb3 (List.mem_of_getElem? (i := 100) (by decide +kernel))) rfl
theorem mT_X0_numbersOf : Cond.static yX0_numbersOf ∈ wU := mU (tb3 (List.mem_of_getElem? (i := 101) (by decide +kernel))) rfl
theorem mC_X0_numbersOf : Cond.code yX0_numbersOf cX0_numbersOf 1 (some .int) ∈ wU := mU (tb3 (List.mem_of_getElem? (i := 102) (by decide +kernel))) rfl
theorem mL_RX0_53 : Cond.methodLink RX0 53 yX3_addRow ∈ wU := mU (tb3 (List.mem_of_getElem? (i := 103) (by decide +kernel))) rfl
theorem mL_RX0_56 : Cond.methodLink RX0 56 yX3_put ∈ wU := mU (tb3 (List.mem_of_getElem? (i := 104) (by decide +kernel))) rfl
theorem mL_RX0_60 : Cond.methodLink RX0 60 yX0_readNumber ∈ wU := mU (tb3 (List.mem_of_getElem? (i := 105) (by decide +kernel))) rfl
theorem mI_X0_readNumber : Cond.instanceMethod yX0_readNumber ∈ wU := mU (tb3 (List.mem_of_getElem? (i := 107) (by decide +kernel))) rfl
theorem mC_X0_readNumber : Cond.code yX0_readNumber cX0_readNumber 5 (some .boolean) ∈ wU := mU (tb3 (List.mem_of_getElem? (i := 108) (by decide +kernel))) rfl
theorem mL_RX0_64 : Cond.methodLink RX0 64 yX0_isDigit ∈ wU := mU (tb3 (List.mem_of_getElem? (i := 109) (by decide +kernel))) rfl
theorem mT_X0_isDigit : Cond.static yX0_isDigit ∈ wU := mU (tb3 (List.mem_of_getElem? (i := 110) (by decide +kernel))) rfl
theorem mC_X0_isDigit : Cond.code yX0_isDigit cX0_isDigit 1 (some .boolean) ∈ wU := mU (tb3 (List.mem_of_getElem? (i := 111) (by decide +kernel))) rfl
theorem mL_RX4_257 : Cond.methodLink RX4 257 yX0_emptyBuffer ∈ wU := mU (tb3 (List.mem_of_getElem? (i := 112) (by decide +kernel))) rfl
theorem mI_X0_emptyBuffer : Cond.instanceMethod yX0_emptyBuffer ∈ wU := mU (tb3 (List.mem_of_getElem? (i := 113) (by decide +kernel))) rfl
theorem mS_X0_emptyBuffer : Cond.selects RX0 yX0_emptyBuffer yX0_emptyBuffer ∈ wU := mU (tb3 (List.mem_of_getElem? (i := 114) (by decide +kernel))) rfl
theorem mC_X0_emptyBuffer : Cond.code yX0_emptyBuffer cX0_emptyBuffer 1 none ∈ wU := mU (tb3 (List.mem_of_getElem? (i := 115) (by decide +kernel))) rfl
theorem mL_RX4_260 : Cond.methodLink RX4 260 yX0_position ∈ wU := mU (tb3 (List.mem_of_getElem? (i := 116) (by decide +kernel))) rfl
theorem mI_X0_position : Cond.instanceMethod yX0_position ∈ wU := mU (tb3 (List.mem_of_getElem? (i := 117) (by decide +kernel))) rfl
theorem mS_X0_position : Cond.selects RX0 yX0_position yX0_position ∈ wU := mU (tb3 (List.mem_of_getElem? (i := 118) (by decide +kernel))) rfl
theorem mC_X0_position : Cond.code yX0_position cX0_position 1 (some .int) ∈ wU := mU (tb3 (List.mem_of_getElem? (i := 119) (by decide +kernel))) rfl
theorem mL_RX4_263 : Cond.methodLink RX4 263 yX0_commandCount ∈ wU := mU (tb3 (List.mem_of_getElem? (i := 120) (by decide +kernel))) rfl
theorem mI_X0_commandCount : Cond.instanceMethod yX0_commandCount ∈ wU := mU (tb3 (List.mem_of_getElem? (i := 121) (by decide +kernel))) rfl
theorem mS_X0_commandCount : Cond.selects RX0 yX0_commandCount yX0_commandCount ∈ wU := mU (tb3 (List.mem_of_getElem? (i := 122) (by decide +kernel))) rfl
theorem mC_X0_commandCount : Cond.code yX0_commandCount cX0_commandCount 1 (some .int) ∈ wU := mU (tb3 (List.mem_of_getElem? (i := 123) (by decide +kernel))) rfl
theorem mL_RX0_31 : Cond.methodLink RX0 31 yX3_size ∈ wU := mU (tb3 (List.mem_of_getElem? (i := 124) (by decide +kernel))) rfl
theorem mL_RX4_266 : Cond.methodLink RX4 266 yX4_runCommand ∈ wU := mU (tb3 (List.mem_of_getElem? (i := 125) (by decide +kernel))) rfl
theorem mI_X4_runCommand : Cond.instanceMethod yX4_runCommand ∈ wU := mU (tb3 (List.mem_of_getElem? (i := 127) (by decide +kernel))) rfl
theorem mC_X4_runCommand : Cond.code yX4_runCommand cX4_runCommand 4 (some .int) ∈ wU := mU (tb3 (List.mem_of_getElem? (i := 128) (by decide +kernel))) rfl
theorem mL_RX4_273 : Cond.methodLink RX4 273 yX0_number ∈ wU := mU (tb3 (List.mem_of_getElem? (i := 129) (by decide +kernel))) rfl
theorem mI_X0_number : Cond.instanceMethod yX0_number ∈ wU := mU (tb3 (List.mem_of_getElem? (i := 130) (by decide +kernel))) rfl
theorem mS_X0_number : Cond.selects RX0 yX0_number yX0_number ∈ wU := mU (tb3 (List.mem_of_getElem? (i := 131) (by decide +kernel))) rfl
theorem mC_X0_number : Cond.code yX0_number cX0_number 3 (some .int) ∈ wU := mU (tb3 (List.mem_of_getElem? (i := 132) (by decide +kernel))) rfl
theorem mL_RX0_35 : Cond.methodLink RX0 35 yX3_get ∈ wU := mU (tb3 (List.mem_of_getElem? (i := 133) (by decide +kernel))) rfl
theorem mL_RX4_276 : Cond.methodLink RX4 276 yX0_letter ∈ wU := mU (tb3 (List.mem_of_getElem? (i := 134) (by decide +kernel))) rfl
theorem mI_X0_letter : Cond.instanceMethod yX0_letter ∈ wU := mU (tb3 (List.mem_of_getElem? (i := 135) (by decide +kernel))) rfl
theorem mS_X0_letter : Cond.selects RX0 yX0_letter yX0_letter ∈ wU := mU (tb3 (List.mem_of_getElem? (i := 136) (by decide +kernel))) rfl
theorem mC_X0_letter : Cond.code yX0_letter cX0_letter 2 (some .int) ∈ wU := mU (tb3 (List.mem_of_getElem? (i := 137) (by decide +kernel))) rfl
theorem mL_RL_166 : Cond.methodLink RL 166 yX4_save ∈ wU := mU (tb3 (List.mem_of_getElem? (i := 138) (by decide +kernel))) rfl
theorem mI_X4_save : Cond.instanceMethod yX4_save ∈ wU := mU (tb3 (List.mem_of_getElem? (i := 139) (by decide +kernel))) rfl
theorem mS_X4_save : Cond.selects RX4 yX4_save yX4_save ∈ wU := mU (tb3 (List.mem_of_getElem? (i := 140) (by decide +kernel))) rfl
theorem mC_X4_save : Cond.code yX4_save cX4_save 1 (some .int) ∈ wU := mU (tb3 (List.mem_of_getElem? (i := 141) (by decide +kernel))) rfl
theorem mL_RL_170 : Cond.methodLink RL 170 yX4_restore ∈ wU := mU (tb3 (List.mem_of_getElem? (i := 142) (by decide +kernel))) rfl
theorem mI_X4_restore : Cond.instanceMethod yX4_restore ∈ wU := mU (tb3 (List.mem_of_getElem? (i := 143) (by decide +kernel))) rfl
theorem mS_X4_restore : Cond.selects RX4 yX4_restore yX4_restore ∈ wU := mU (tb3 (List.mem_of_getElem? (i := 144) (by decide +kernel))) rfl
theorem mC_X4_restore : Cond.code yX4_restore cX4_restore 1 (some .int) ∈ wU := mU (tb3 (List.mem_of_getElem? (i := 145) (by decide +kernel))) rfl
theorem mL_RL_174 : Cond.methodLink RL 174 yX4_undo ∈ wU := mU (tb3 (List.mem_of_getElem? (i := 146) (by decide +kernel))) rfl
theorem mI_X4_undo : Cond.instanceMethod yX4_undo ∈ wU := mU (tb3 (List.mem_of_getElem? (i := 147) (by decide +kernel))) rfl
theorem mS_X4_undo : Cond.selects RX4 yX4_undo yX4_undo ∈ wU := mU (tb3 (List.mem_of_getElem? (i := 148) (by decide +kernel))) rfl
theorem mC_X4_undo : Cond.code yX4_undo cX4_undo 1 (some .int) ∈ wU := mU (tb3 (List.mem_of_getElem? (i := 149) (by decide +kernel))) rfl
theorem mL_RX4_279 : Cond.methodLink RX4 279 yX1_isEmpty ∈ wU := mU (tb3 (List.mem_of_getElem? (i := 150) (by decide +kernel))) rfl
theorem mI_X1_isEmpty : Cond.instanceMethod yX1_isEmpty ∈ wU := mU (tb3 (List.mem_of_getElem? (i := 151) (by decide +kernel))) rfl
theorem mS_X1_isEmpty : Cond.selects RX1 yX1_isEmpty yX1_isEmpty ∈ wU := mU (tb3 (List.mem_of_getElem? (i := 152) (by decide +kernel))) rfl
theorem mC_X1_isEmpty : Cond.code yX1_isEmpty cX1_isEmpty 1 (some .boolean) ∈ wU := mU (tb3 (List.mem_of_getElem? (i := 153) (by decide +kernel))) rfl
theorem mL_RX4_282 : Cond.methodLink RX4 282 yX1_pop ∈ wU := mU (tb3 (List.mem_of_getElem? (i := 154) (by decide +kernel))) rfl
theorem mI_X1_pop : Cond.instanceMethod yX1_pop ∈ wU := mU (tb3 (List.mem_of_getElem? (i := 155) (by decide +kernel))) rfl
theorem mS_X1_pop : Cond.selects RX1 yX1_pop yX1_pop ∈ wU := mU (tb3 (List.mem_of_getElem? (i := 156) (by decide +kernel))) rfl
theorem mC_X1_pop : Cond.code yX1_pop cX1_pop 3 none ∈ wU := mU (tb3 (List.mem_of_getElem? (i := 157) (by decide +kernel))) rfl
theorem mL_RX4_285 : Cond.methodLink RX4 285 yX1_size ∈ wU := mU (tb3 (List.mem_of_getElem? (i := 158) (by decide +kernel))) rfl
theorem mI_X1_size : Cond.instanceMethod yX1_size ∈ wU := mU (tb3 (List.mem_of_getElem? (i := 159) (by decide +kernel))) rfl
theorem mS_X1_size : Cond.selects RX1 yX1_size yX1_size ∈ wU := mU (tb3 (List.mem_of_getElem? (i := 160) (by decide +kernel))) rfl
theorem mC_X1_size : Cond.code yX1_size cX1_size 1 (some .int) ∈ wU := mU (tb3 (List.mem_of_getElem? (i := 161) (by decide +kernel))) rfl
theorem mN_RL_10 : Cond.classLink RL 10 RX5 ∈ wU := mU (tb3 (List.mem_of_getElem? (i := 162) (by decide +kernel))) rfl
theorem mB_RX5 : Cond.instantiable RX5 11 ∈ wU := mU (tb3 (List.mem_of_getElem? (i := 163) (by decide +kernel))) rfl
theorem mL_RL_12 : Cond.methodLink RL 12 yX5_init ∈ wU := mU (tb3 (List.mem_of_getElem? (i := 164) (by decide +kernel))) rfl
theorem mI_X5_init : Cond.instanceMethod yX5_init ∈ wU := mU (tb3 (List.mem_of_getElem? (i := 165) (by decide +kernel))) rfl
theorem mC_X5_init : Cond.code yX5_init cX5_init 1 none ∈ wU := mU (tb3 (List.mem_of_getElem? (i := 166) (by decide +kernel))) rfl
theorem mL_RX5_5 : Cond.methodLink RX5 5 objectInit ∈ wU := mU (tb3 (List.mem_of_getElem? (i := 167) (by decide +kernel))) rfl
theorem mF_RX5_11 : Cond.fieldLink RX5 11 "LibraryCirculationModel" "now" "[I" ∈ wU := mU (tb3 (List.mem_of_getElem? (i := 168) (by decide +kernel))) rfl
theorem mF_RX5_15 : Cond.fieldLink RX5 15 "LibraryCirculationModel" "before" "[I" ∈ wU := mU (tb3 (List.mem_of_getElem? (i := 169) (by decide +kernel))) rfl
theorem mF_RX5_18 : Cond.fieldLink RX5 18 "LibraryCirculationModel" "image" "[I" ∈ wU := mU (tb3 (List.mem_of_getElem? (i := 170) (by decide +kernel))) rfl
theorem mF_RX5_21 : Cond.fieldLink RX5 21 "LibraryCirculationModel" "changes" "[I" ∈ wU := mU (tb3 (List.mem_of_getElem? (i := 171) (by decide +kernel))) rfl
theorem mF_RX5_24 : Cond.fieldLink RX5 24 "LibraryCirculationModel" "changed" "I" ∈ wU := mU (tb3 (List.mem_of_getElem? (i := 172) (by decide +kernel))) rfl
theorem mF_RX5_28 : Cond.fieldLink RX5 28 "LibraryCirculationModel" "isSaved" "Z" ∈ wU := mU (tb3 (List.mem_of_getElem? (i := 173) (by decide +kernel))) rfl
theorem mF_RX5_32 : Cond.fieldLink RX5 32 "LibraryCirculationModel" "text" "[I" ∈ wU := mU (tb3 (List.mem_of_getElem? (i := 174) (by decide +kernel))) rfl
theorem mF_RX5_35 : Cond.fieldLink RX5 35 "LibraryCirculationModel" "numbers" "[I" ∈ wU := mU (tb3 (List.mem_of_getElem? (i := 175) (by decide +kernel))) rfl
theorem mF_RX5_38 : Cond.fieldLink RX5 38 "LibraryCirculationModel" "fed" "I" ∈ wU := mU (tb3 (List.mem_of_getElem? (i := 176) (by decide +kernel))) rfl
theorem mF_RX5_41 : Cond.fieldLink RX5 41 "LibraryCirculationModel" "at" "I" ∈ wU := mU (tb3 (List.mem_of_getElem? (i := 177) (by decide +kernel))) rfl
theorem mF_RX5_44 : Cond.fieldLink RX5 44 "LibraryCirculationModel" "isWrong" "Z" ∈ wU := mU (tb3 (List.mem_of_getElem? (i := 178) (by decide +kernel))) rfl
theorem mL_RL_17 : Cond.methodLink RL 17 yX5_addCopy ∈ wU := mU (tb3 (List.mem_of_getElem? (i := 202) (by decide +kernel))) rfl
theorem mI_X5_addCopy : Cond.instanceMethod yX5_addCopy ∈ wU := mU (tb3 (List.mem_of_getElem? (i := 203) (by decide +kernel))) rfl
theorem mS_X5_addCopy : Cond.selects RX5 yX5_addCopy yX5_addCopy ∈ wU := mU (tb3 (List.mem_of_getElem? (i := 204) (by decide +kernel))) rfl
theorem mC_X5_addCopy : Cond.code yX5_addCopy cX5_addCopy 5 (some .int) ∈ wU := mU (tb3 (List.mem_of_getElem? (i := 205) (by decide +kernel))) rfl
theorem mL_RX5_89 : Cond.methodLink RX5 89 yX5_isTitle ∈ wU := mU (tb3 (List.mem_of_getElem? (i := 206) (by decide +kernel))) rfl
theorem mT_X5_isTitle : Cond.static yX5_isTitle ∈ wU := mU (tb3 (List.mem_of_getElem? (i := 207) (by decide +kernel))) rfl
theorem mC_X5_isTitle : Cond.code yX5_isTitle cX5_isTitle 1 (some .boolean) ∈ wU := mU (tb3 (List.mem_of_getElem? (i := 208) (by decide +kernel))) rfl
theorem mL_RX5_51 : Cond.methodLink RX5 51 yX5_in ∈ wU := mU (tb3 (List.mem_of_getElem? (i := 209) (by decide +kernel))) rfl
theorem mT_X5_in : Cond.static yX5_in ∈ wU := mU (tb3 (List.mem_of_getElem? (i := 210) (by decide +kernel))) rfl
theorem mC_X5_in : Cond.code yX5_in cX5_in 3 (some .boolean) ∈ wU := mU (tb3 (List.mem_of_getElem? (i := 211) (by decide +kernel))) rfl
theorem mL_RX5_93 : Cond.methodLink RX5 93 yX5_isBranch ∈ wU := mU (tb3 (List.mem_of_getElem? (i := 212) (by decide +kernel))) rfl
theorem mT_X5_isBranch : Cond.static yX5_isBranch ∈ wU := mU (tb3 (List.mem_of_getElem? (i := 213) (by decide +kernel))) rfl
theorem mC_X5_isBranch : Cond.code yX5_isBranch cX5_isBranch 1 (some .boolean) ∈ wU := mU (tb3 (List.mem_of_getElem? (i := 214) (by decide +kernel))) rfl
theorem mL_RX5_96 : Cond.methodLink RX5 96 yX5_keeps ∈ wU := mU (tb3 (List.mem_of_getElem? (i := 215) (by decide +kernel))) rfl
theorem mI_X5_keeps : Cond.instanceMethod yX5_keeps ∈ wU := mU (tb3 (List.mem_of_getElem? (i := 217) (by decide +kernel))) rfl
theorem mC_X5_keeps : Cond.code yX5_keeps cX5_keeps 1 none ∈ wU := mU (tb3 (List.mem_of_getElem? (i := 218) (by decide +kernel))) rfl
theorem mL_RX5_47 : Cond.methodLink RX5 47 yX5_copies ∈ wU := mU (tb3 (List.mem_of_getElem? (i := 219) (by decide +kernel))) rfl
theorem mT_X5_copies : Cond.static yX5_copies ∈ wU := mU (tb3 (List.mem_of_getElem? (i := 220) (by decide +kernel))) rfl
theorem mC_X5_copies : Cond.code yX5_copies cX5_copies 5 none ∈ wU := mU (tb3 (List.mem_of_getElem? (i := 221) (by decide +kernel))) rfl
theorem mL_RX5_55 : Cond.methodLink RX5 55 yX5_puts ∈ wU := mU (tb3 (List.mem_of_getElem? (i := 222) (by decide +kernel))) rfl
theorem mI_X5_puts : Cond.instanceMethod yX5_puts ∈ wU := mU (tb3 (List.mem_of_getElem? (i := 224) (by decide +kernel))) rfl
theorem mC_X5_puts : Cond.code yX5_puts cX5_puts 4 none ∈ wU := mU (tb3 (List.mem_of_getElem? (i := 225) (by decide +kernel))) rfl
theorem mL_RX5_99 : Cond.methodLink RX5 99 yX5_frees ∈ wU := mU (tb3 (List.mem_of_getElem? (i := 226) (by decide +kernel))) rfl
theorem mI_X5_frees : Cond.instanceMethod yX5_frees ∈ wU := mU (tb3 (List.mem_of_getElem? (i := 228) (by decide +kernel))) rfl
theorem mC_X5_frees : Cond.code yX5_frees cX5_frees 5 none ∈ wU := mU (tb3 (List.mem_of_getElem? (i := 229) (by decide +kernel))) rfl
theorem mL_RX5_73 : Cond.methodLink RX5 73 yX5_of ∈ wU := mU (tb3 (List.mem_of_getElem? (i := 230) (by decide +kernel))) rfl
theorem mI_X5_of : Cond.instanceMethod yX5_of ∈ wU := mU (tb3 (List.mem_of_getElem? (i := 232) (by decide +kernel))) rfl
theorem mC_X5_of : Cond.code yX5_of cX5_of 3 (some .int) ∈ wU := mU (tb3 (List.mem_of_getElem? (i := 233) (by decide +kernel))) rfl
theorem mL_RX5_76 : Cond.methodLink RX5 76 yX5_firstWaiting ∈ wU := mU (tb3 (List.mem_of_getElem? (i := 234) (by decide +kernel))) rfl
theorem mI_X5_firstWaiting : Cond.instanceMethod yX5_firstWaiting ∈ wU := mU (tb3 (List.mem_of_getElem? (i := 236) (by decide +kernel))) rfl
theorem mC_X5_firstWaiting : Cond.code yX5_firstWaiting cX5_firstWaiting 3 (some .int) ∈ wU := mU (tb3 (List.mem_of_getElem? (i := 237) (by decide +kernel))) rfl
theorem mL_RX5_59 : Cond.methodLink RX5 59 yX5_hold ∈ wU := mU (tb3 (List.mem_of_getElem? (i := 238) (by decide +kernel))) rfl
theorem mI_X5_hold : Cond.instanceMethod yX5_hold ∈ wU := mU (tb4 (List.mem_of_getElem? (i := 0) (by decide +kernel))) rfl
theorem mC_X5_hold : Cond.code yX5_hold cX5_hold 3 (some .int) ∈ wU := mU (tb4 (List.mem_of_getElem? (i := 1) (by decide +kernel))) rfl
theorem mL_RX5_79 : Cond.methodLink RX5 79 yX5_assigns ∈ wU := mU (tb4 (List.mem_of_getElem? (i := 2) (by decide +kernel))) rfl
theorem mI_X5_assigns : Cond.instanceMethod yX5_assigns ∈ wU := mU (tb4 (List.mem_of_getElem? (i := 4) (by decide +kernel))) rfl
theorem mC_X5_assigns : Cond.code yX5_assigns cX5_assigns 5 none ∈ wU := mU (tb4 (List.mem_of_getElem? (i := 5) (by decide +kernel))) rfl
theorem mL_RX5_63 : Cond.methodLink RX5 63 yX5_turns ∈ wU := mU (tb4 (List.mem_of_getElem? (i := 6) (by decide +kernel))) rfl
theorem mI_X5_turns : Cond.instanceMethod yX5_turns ∈ wU := mU (tb4 (List.mem_of_getElem? (i := 8) (by decide +kernel))) rfl
theorem mC_X5_turns : Cond.code yX5_turns cX5_turns 5 none ∈ wU := mU (tb4 (List.mem_of_getElem? (i := 9) (by decide +kernel))) rfl
theorem mL_RX5_67 : Cond.methodLink RX5 67 ⟨"java/lang/Math", "abs", "(I)I"⟩ ∈ wU := mU (tb4 (List.mem_of_getElem? (i := 10) (by decide +kernel))) rfl
theorem mL_RX5_103 : Cond.methodLink RX5 103 yX5_made ∈ wU := mU (tb4 (List.mem_of_getElem? (i := 11) (by decide +kernel))) rfl
theorem mI_X5_made : Cond.instanceMethod yX5_made ∈ wU := mU (tb4 (List.mem_of_getElem? (i := 13) (by decide +kernel))) rfl
theorem mC_X5_made : Cond.code yX5_made cX5_made 3 (some .int) ∈ wU := mU (tb4 (List.mem_of_getElem? (i := 14) (by decide +kernel))) rfl
theorem mL_RL_22 : Cond.methodLink RL 22 yX5_addPatron ∈ wU := mU (tb4 (List.mem_of_getElem? (i := 15) (by decide +kernel))) rfl
theorem mI_X5_addPatron : Cond.instanceMethod yX5_addPatron ∈ wU := mU (tb4 (List.mem_of_getElem? (i := 16) (by decide +kernel))) rfl
theorem mS_X5_addPatron : Cond.selects RX5 yX5_addPatron yX5_addPatron ∈ wU := mU (tb4 (List.mem_of_getElem? (i := 17) (by decide +kernel))) rfl
theorem mC_X5_addPatron : Cond.code yX5_addPatron cX5_addPatron 3 (some .int) ∈ wU := mU (tb4 (List.mem_of_getElem? (i := 18) (by decide +kernel))) rfl
theorem mL_RL_26 : Cond.methodLink RL 26 yX5_set ∈ wU := mU (tb4 (List.mem_of_getElem? (i := 19) (by decide +kernel))) rfl
theorem mI_X5_set : Cond.instanceMethod yX5_set ∈ wU := mU (tb4 (List.mem_of_getElem? (i := 20) (by decide +kernel))) rfl
theorem mS_X5_set : Cond.selects RX5 yX5_set yX5_set ∈ wU := mU (tb4 (List.mem_of_getElem? (i := 21) (by decide +kernel))) rfl
theorem mC_X5_set : Cond.code yX5_set cX5_set 4 (some .int) ∈ wU := mU (tb4 (List.mem_of_getElem? (i := 22) (by decide +kernel))) rfl
theorem mL_RX5_107 : Cond.methodLink RX5 107 yX5_least ∈ wU := mU (tb4 (List.mem_of_getElem? (i := 23) (by decide +kernel))) rfl
theorem mT_X5_least : Cond.static yX5_least ∈ wU := mU (tb4 (List.mem_of_getElem? (i := 24) (by decide +kernel))) rfl
theorem mC_X5_least : Cond.code yX5_least cX5_least 1 (some .int) ∈ wU := mU (tb4 (List.mem_of_getElem? (i := 25) (by decide +kernel))) rfl
theorem mL_RX5_110 : Cond.methodLink RX5 110 yX5_most ∈ wU := mU (tb4 (List.mem_of_getElem? (i := 26) (by decide +kernel))) rfl
theorem mT_X5_most : Cond.static yX5_most ∈ wU := mU (tb4 (List.mem_of_getElem? (i := 27) (by decide +kernel))) rfl
theorem mC_X5_most : Cond.code yX5_most cX5_most 1 (some .int) ∈ wU := mU (tb4 (List.mem_of_getElem? (i := 28) (by decide +kernel))) rfl
theorem mK_RX5_106 : Cond.constant RX5 106 (100000) ∈ wU := mU (tb4 (List.mem_of_getElem? (i := 29) (by decide +kernel))) rfl
theorem mL_RL_31 : Cond.methodLink RL 31 yX5_setting ∈ wU := mU (tb4 (List.mem_of_getElem? (i := 30) (by decide +kernel))) rfl
theorem mI_X5_setting : Cond.instanceMethod yX5_setting ∈ wU := mU (tb4 (List.mem_of_getElem? (i := 31) (by decide +kernel))) rfl
theorem mS_X5_setting : Cond.selects RX5 yX5_setting yX5_setting ∈ wU := mU (tb4 (List.mem_of_getElem? (i := 32) (by decide +kernel))) rfl
theorem mC_X5_setting : Cond.code yX5_setting cX5_setting 2 (some .int) ∈ wU := mU (tb4 (List.mem_of_getElem? (i := 33) (by decide +kernel))) rfl
theorem mL_RL_36 : Cond.methodLink RL 36 yX5_setFloating ∈ wU := mU (tb4 (List.mem_of_getElem? (i := 34) (by decide +kernel))) rfl
theorem mI_X5_setFloating : Cond.instanceMethod yX5_setFloating ∈ wU := mU (tb4 (List.mem_of_getElem? (i := 35) (by decide +kernel))) rfl
theorem mS_X5_setFloating : Cond.selects RX5 yX5_setFloating yX5_setFloating ∈ wU := mU (tb4 (List.mem_of_getElem? (i := 36) (by decide +kernel))) rfl
theorem mC_X5_setFloating : Cond.code yX5_setFloating cX5_setFloating 4 (some .int) ∈ wU := mU (tb4 (List.mem_of_getElem? (i := 37) (by decide +kernel))) rfl
theorem mL_RX5_113 : Cond.methodLink RX5 113 yX5_isCopy ∈ wU := mU (tb4 (List.mem_of_getElem? (i := 38) (by decide +kernel))) rfl
theorem mI_X5_isCopy : Cond.instanceMethod yX5_isCopy ∈ wU := mU (tb4 (List.mem_of_getElem? (i := 40) (by decide +kernel))) rfl
theorem mC_X5_isCopy : Cond.code yX5_isCopy cX5_isCopy 2 (some .boolean) ∈ wU := mU (tb4 (List.mem_of_getElem? (i := 41) (by decide +kernel))) rfl
theorem mL_RL_40 : Cond.methodLink RL 40 yX5_copyCount ∈ wU := mU (tb4 (List.mem_of_getElem? (i := 42) (by decide +kernel))) rfl
theorem mI_X5_copyCount : Cond.instanceMethod yX5_copyCount ∈ wU := mU (tb4 (List.mem_of_getElem? (i := 43) (by decide +kernel))) rfl
theorem mS_X5_copyCount : Cond.selects RX5 yX5_copyCount yX5_copyCount ∈ wU := mU (tb4 (List.mem_of_getElem? (i := 44) (by decide +kernel))) rfl
theorem mC_X5_copyCount : Cond.code yX5_copyCount cX5_copyCount 4 (some .int) ∈ wU := mU (tb4 (List.mem_of_getElem? (i := 45) (by decide +kernel))) rfl
theorem mL_RL_44 : Cond.methodLink RL 44 yX5_copy ∈ wU := mU (tb4 (List.mem_of_getElem? (i := 46) (by decide +kernel))) rfl
theorem mI_X5_copy : Cond.instanceMethod yX5_copy ∈ wU := mU (tb4 (List.mem_of_getElem? (i := 47) (by decide +kernel))) rfl
theorem mS_X5_copy : Cond.selects RX5 yX5_copy yX5_copy ∈ wU := mU (tb4 (List.mem_of_getElem? (i := 48) (by decide +kernel))) rfl
theorem mC_X5_copy : Cond.code yX5_copy cX5_copy 5 (some .int) ∈ wU := mU (tb4 (List.mem_of_getElem? (i := 49) (by decide +kernel))) rfl
theorem mL_RX5_116 : Cond.methodLink RX5 116 yX5_holdOf ∈ wU := mU (tb4 (List.mem_of_getElem? (i := 50) (by decide +kernel))) rfl
theorem mI_X5_holdOf : Cond.instanceMethod yX5_holdOf ∈ wU := mU (tb4 (List.mem_of_getElem? (i := 52) (by decide +kernel))) rfl
theorem mC_X5_holdOf : Cond.code yX5_holdOf cX5_holdOf 3 (some .int) ∈ wU := mU (tb4 (List.mem_of_getElem? (i := 53) (by decide +kernel))) rfl
theorem mL_RL_48 : Cond.methodLink RL 48 yX5_day ∈ wU := mU (tb4 (List.mem_of_getElem? (i := 54) (by decide +kernel))) rfl
theorem mI_X5_day : Cond.instanceMethod yX5_day ∈ wU := mU (tb4 (List.mem_of_getElem? (i := 55) (by decide +kernel))) rfl
theorem mS_X5_day : Cond.selects RX5 yX5_day yX5_day ∈ wU := mU (tb4 (List.mem_of_getElem? (i := 56) (by decide +kernel))) rfl
theorem mC_X5_day : Cond.code yX5_day cX5_day 1 (some .int) ∈ wU := mU (tb4 (List.mem_of_getElem? (i := 57) (by decide +kernel))) rfl
theorem mL_RL_52 : Cond.methodLink RL 52 yX5_pass ∈ wU := mU (tb4 (List.mem_of_getElem? (i := 58) (by decide +kernel))) rfl
theorem mI_X5_pass : Cond.instanceMethod yX5_pass ∈ wU := mU (tb4 (List.mem_of_getElem? (i := 59) (by decide +kernel))) rfl
theorem mS_X5_pass : Cond.selects RX5 yX5_pass yX5_pass ∈ wU := mU (tb4 (List.mem_of_getElem? (i := 60) (by decide +kernel))) rfl
theorem mC_X5_pass : Cond.code yX5_pass cX5_pass 2 (some .int) ∈ wU := mU (tb4 (List.mem_of_getElem? (i := 61) (by decide +kernel))) rfl
theorem mL_RX5_138 : Cond.methodLink RX5 138 yX5_passes ∈ wU := mU (tb4 (List.mem_of_getElem? (i := 62) (by decide +kernel))) rfl
theorem mI_X5_passes : Cond.instanceMethod yX5_passes ∈ wU := mU (tb4 (List.mem_of_getElem? (i := 64) (by decide +kernel))) rfl
theorem mC_X5_passes : Cond.code yX5_passes cX5_passes 4 (some .int) ∈ wU := mU (tb4 (List.mem_of_getElem? (i := 65) (by decide +kernel))) rfl
theorem mL_RX5_129 : Cond.methodLink RX5 129 yX5_arrive ∈ wU := mU (tb4 (List.mem_of_getElem? (i := 66) (by decide +kernel))) rfl
theorem mI_X5_arrive : Cond.instanceMethod yX5_arrive ∈ wU := mU (tb4 (List.mem_of_getElem? (i := 68) (by decide +kernel))) rfl
theorem mC_X5_arrive : Cond.code yX5_arrive cX5_arrive 2 none ∈ wU := mU (tb4 (List.mem_of_getElem? (i := 69) (by decide +kernel))) rfl
theorem mL_RX5_132 : Cond.methodLink RX5 132 yX5_expire ∈ wU := mU (tb4 (List.mem_of_getElem? (i := 70) (by decide +kernel))) rfl
theorem mI_X5_expire : Cond.instanceMethod yX5_expire ∈ wU := mU (tb4 (List.mem_of_getElem? (i := 72) (by decide +kernel))) rfl
theorem mC_X5_expire : Cond.code yX5_expire cX5_expire 2 none ∈ wU := mU (tb4 (List.mem_of_getElem? (i := 73) (by decide +kernel))) rfl
theorem mL_RX5_119 : Cond.methodLink RX5 119 yX5_removes ∈ wU := mU (tb4 (List.mem_of_getElem? (i := 74) (by decide +kernel))) rfl
theorem mI_X5_removes : Cond.instanceMethod yX5_removes ∈ wU := mU (tb4 (List.mem_of_getElem? (i := 76) (by decide +kernel))) rfl
theorem mC_X5_removes : Cond.code yX5_removes cX5_removes 3 none ∈ wU := mU (tb4 (List.mem_of_getElem? (i := 77) (by decide +kernel))) rfl
theorem mL_RX5_135 : Cond.methodLink RX5 135 yX5_loses ∈ wU := mU (tb4 (List.mem_of_getElem? (i := 78) (by decide +kernel))) rfl
theorem mI_X5_loses : Cond.instanceMethod yX5_loses ∈ wU := mU (tb4 (List.mem_of_getElem? (i := 80) (by decide +kernel))) rfl
theorem mC_X5_loses : Cond.code yX5_loses cX5_loses 2 none ∈ wU := mU (tb4 (List.mem_of_getElem? (i := 81) (by decide +kernel))) rfl
theorem mL_RX5_123 : Cond.methodLink RX5 123 yX5_late ∈ wU := mU (tb4 (List.mem_of_getElem? (i := 82) (by decide +kernel))) rfl
theorem mI_X5_late : Cond.instanceMethod yX5_late ∈ wU := mU (tb4 (List.mem_of_getElem? (i := 84) (by decide +kernel))) rfl
theorem mC_X5_late : Cond.code yX5_late cX5_late 4 (some .int) ∈ wU := mU (tb4 (List.mem_of_getElem? (i := 85) (by decide +kernel))) rfl
theorem mL_RX5_82 : Cond.methodLink RX5 82 ⟨"java/lang/Math", "max", "(II)I"⟩ ∈ wU := mU (tb4 (List.mem_of_getElem? (i := 86) (by decide +kernel))) rfl
theorem mL_RX5_85 : Cond.methodLink RX5 85 ⟨"java/lang/Math", "min", "(JJ)J"⟩ ∈ wU := mU (tb4 (List.mem_of_getElem? (i := 87) (by decide +kernel))) rfl
theorem mL_RX5_126 : Cond.methodLink RX5 126 yX5_owes ∈ wU := mU (tb4 (List.mem_of_getElem? (i := 88) (by decide +kernel))) rfl
theorem mI_X5_owes : Cond.instanceMethod yX5_owes ∈ wU := mU (tb4 (List.mem_of_getElem? (i := 90) (by decide +kernel))) rfl
theorem mC_X5_owes : Cond.code yX5_owes cX5_owes 6 none ∈ wU := mU (tb4 (List.mem_of_getElem? (i := 91) (by decide +kernel))) rfl
theorem mL_RL_56 : Cond.methodLink RL 56 yX5_lend ∈ wU := mU (tb4 (List.mem_of_getElem? (i := 92) (by decide +kernel))) rfl
theorem mI_X5_lend : Cond.instanceMethod yX5_lend ∈ wU := mU (tb4 (List.mem_of_getElem? (i := 93) (by decide +kernel))) rfl
theorem mS_X5_lend : Cond.selects RX5 yX5_lend yX5_lend ∈ wU := mU (tb4 (List.mem_of_getElem? (i := 94) (by decide +kernel))) rfl
theorem mC_X5_lend : Cond.code yX5_lend cX5_lend 3 (some .int) ∈ wU := mU (tb4 (List.mem_of_getElem? (i := 95) (by decide +kernel))) rfl
theorem mL_RX5_153 : Cond.methodLink RX5 153 yX5_lends ∈ wU := mU (tb4 (List.mem_of_getElem? (i := 96) (by decide +kernel))) rfl
theorem mI_X5_lends : Cond.instanceMethod yX5_lends ∈ wU := mU (tb4 (List.mem_of_getElem? (i := 98) (by decide +kernel))) rfl
theorem mC_X5_lends : Cond.code yX5_lends cX5_lends 4 (some .int) ∈ wU := mU (tb4 (List.mem_of_getElem? (i := 99) (by decide +kernel))) rfl
theorem mL_RX5_147 : Cond.methodLink RX5 147 yX5_isPatron ∈ wU := mU (tb4 (List.mem_of_getElem? (i := 100) (by decide +kernel))) rfl
theorem mI_X5_isPatron : Cond.instanceMethod yX5_isPatron ∈ wU := mU (tb4 (List.mem_of_getElem? (i := 102) (by decide +kernel))) rfl
theorem mC_X5_isPatron : Cond.code yX5_isPatron cX5_isPatron 2 (some .boolean) ∈ wU := mU (tb4 (List.mem_of_getElem? (i := 103) (by decide +kernel))) rfl
theorem mL_RX5_150 : Cond.methodLink RX5 150 yX5_reasonToLend ∈ wU := mU (tb4 (List.mem_of_getElem? (i := 104) (by decide +kernel))) rfl
theorem mI_X5_reasonToLend : Cond.instanceMethod yX5_reasonToLend ∈ wU := mU (tb4 (List.mem_of_getElem? (i := 106) (by decide +kernel))) rfl
theorem mC_X5_reasonToLend : Cond.code yX5_reasonToLend cX5_reasonToLend 4 (some .int) ∈ wU := mU (tb4 (List.mem_of_getElem? (i := 107) (by decide +kernel))) rfl
theorem mL_RX5_141 : Cond.methodLink RX5 141 yX5_isBarred ∈ wU := mU (tb4 (List.mem_of_getElem? (i := 108) (by decide +kernel))) rfl
theorem mI_X5_isBarred : Cond.instanceMethod yX5_isBarred ∈ wU := mU (tb4 (List.mem_of_getElem? (i := 110) (by decide +kernel))) rfl
theorem mC_X5_isBarred : Cond.code yX5_isBarred cX5_isBarred 2 (some .boolean) ∈ wU := mU (tb4 (List.mem_of_getElem? (i := 111) (by decide +kernel))) rfl
theorem mL_RX5_144 : Cond.methodLink RX5 144 yX5_loans ∈ wU := mU (tb4 (List.mem_of_getElem? (i := 112) (by decide +kernel))) rfl
theorem mI_X5_loans : Cond.instanceMethod yX5_loans ∈ wU := mU (tb4 (List.mem_of_getElem? (i := 114) (by decide +kernel))) rfl
theorem mC_X5_loans : Cond.code yX5_loans cX5_loans 4 (some .int) ∈ wU := mU (tb4 (List.mem_of_getElem? (i := 115) (by decide +kernel))) rfl
theorem mL_RL_60 : Cond.methodLink RL 60 yX5_bringBack ∈ wU := mU (tb4 (List.mem_of_getElem? (i := 116) (by decide +kernel))) rfl
theorem mI_X5_bringBack : Cond.instanceMethod yX5_bringBack ∈ wU := mU (tb4 (List.mem_of_getElem? (i := 117) (by decide +kernel))) rfl
theorem mS_X5_bringBack : Cond.selects RX5 yX5_bringBack yX5_bringBack ∈ wU := mU (tb4 (List.mem_of_getElem? (i := 118) (by decide +kernel))) rfl
theorem mC_X5_bringBack : Cond.code yX5_bringBack cX5_bringBack 3 (some .int) ∈ wU := mU (tb4 (List.mem_of_getElem? (i := 119) (by decide +kernel))) rfl
theorem mL_RX5_156 : Cond.methodLink RX5 156 yX5_bringsBack ∈ wU := mU (tb4 (List.mem_of_getElem? (i := 120) (by decide +kernel))) rfl
theorem mI_X5_bringsBack : Cond.instanceMethod yX5_bringsBack ∈ wU := mU (tb4 (List.mem_of_getElem? (i := 122) (by decide +kernel))) rfl
theorem mC_X5_bringsBack : Cond.code yX5_bringsBack cX5_bringsBack 5 (some .int) ∈ wU := mU (tb4 (List.mem_of_getElem? (i := 123) (by decide +kernel))) rfl
theorem mL_RL_64 : Cond.methodLink RL 64 yX5_renew ∈ wU := mU (tb4 (List.mem_of_getElem? (i := 124) (by decide +kernel))) rfl
theorem mI_X5_renew : Cond.instanceMethod yX5_renew ∈ wU := mU (tb4 (List.mem_of_getElem? (i := 125) (by decide +kernel))) rfl
theorem mS_X5_renew : Cond.selects RX5 yX5_renew yX5_renew ∈ wU := mU (tb4 (List.mem_of_getElem? (i := 126) (by decide +kernel))) rfl
theorem mC_X5_renew : Cond.code yX5_renew cX5_renew 2 (some .int) ∈ wU := mU (tb4 (List.mem_of_getElem? (i := 127) (by decide +kernel))) rfl
theorem mL_RX5_165 : Cond.methodLink RX5 165 yX5_renews ∈ wU := mU (tb4 (List.mem_of_getElem? (i := 128) (by decide +kernel))) rfl
theorem mI_X5_renews : Cond.instanceMethod yX5_renews ∈ wU := mU (tb4 (List.mem_of_getElem? (i := 130) (by decide +kernel))) rfl
theorem mC_X5_renews : Cond.code yX5_renews cX5_renews 3 (some .int) ∈ wU := mU (tb4 (List.mem_of_getElem? (i := 131) (by decide +kernel))) rfl
theorem mL_RX5_162 : Cond.methodLink RX5 162 yX5_reasonToRenew ∈ wU := mU (tb4 (List.mem_of_getElem? (i := 132) (by decide +kernel))) rfl
theorem mI_X5_reasonToRenew : Cond.instanceMethod yX5_reasonToRenew ∈ wU := mU (tb4 (List.mem_of_getElem? (i := 134) (by decide +kernel))) rfl
theorem mC_X5_reasonToRenew : Cond.code yX5_reasonToRenew cX5_reasonToRenew 2 (some .int) ∈ wU := mU (tb4 (List.mem_of_getElem? (i := 135) (by decide +kernel))) rfl
theorem mL_RX5_159 : Cond.methodLink RX5 159 yX5_waitingFor ∈ wU := mU (tb4 (List.mem_of_getElem? (i := 136) (by decide +kernel))) rfl
theorem mI_X5_waitingFor : Cond.instanceMethod yX5_waitingFor ∈ wU := mU (tb4 (List.mem_of_getElem? (i := 138) (by decide +kernel))) rfl
theorem mC_X5_waitingFor : Cond.code yX5_waitingFor cX5_waitingFor 4 (some .int) ∈ wU := mU (tb4 (List.mem_of_getElem? (i := 139) (by decide +kernel))) rfl
theorem mL_RL_68 : Cond.methodLink RL 68 yX5_claim ∈ wU := mU (tb4 (List.mem_of_getElem? (i := 140) (by decide +kernel))) rfl
theorem mI_X5_claim : Cond.instanceMethod yX5_claim ∈ wU := mU (tb4 (List.mem_of_getElem? (i := 141) (by decide +kernel))) rfl
theorem mS_X5_claim : Cond.selects RX5 yX5_claim yX5_claim ∈ wU := mU (tb4 (List.mem_of_getElem? (i := 142) (by decide +kernel))) rfl
theorem mC_X5_claim : Cond.code yX5_claim cX5_claim 3 (some .int) ∈ wU := mU (tb4 (List.mem_of_getElem? (i := 143) (by decide +kernel))) rfl
theorem mL_RX5_168 : Cond.methodLink RX5 168 yX5_reasonToClaim ∈ wU := mU (tb4 (List.mem_of_getElem? (i := 144) (by decide +kernel))) rfl
theorem mI_X5_reasonToClaim : Cond.instanceMethod yX5_reasonToClaim ∈ wU := mU (tb4 (List.mem_of_getElem? (i := 146) (by decide +kernel))) rfl
theorem mC_X5_reasonToClaim : Cond.code yX5_reasonToClaim cX5_reasonToClaim 2 (some .int) ∈ wU := mU (tb4 (List.mem_of_getElem? (i := 147) (by decide +kernel))) rfl
theorem mL_RL_72 : Cond.methodLink RL 72 yX5_lose ∈ wU := mU (tb4 (List.mem_of_getElem? (i := 148) (by decide +kernel))) rfl
theorem mI_X5_lose : Cond.instanceMethod yX5_lose ∈ wU := mU (tb4 (List.mem_of_getElem? (i := 149) (by decide +kernel))) rfl
theorem mS_X5_lose : Cond.selects RX5 yX5_lose yX5_lose ∈ wU := mU (tb4 (List.mem_of_getElem? (i := 150) (by decide +kernel))) rfl
theorem mC_X5_lose : Cond.code yX5_lose cX5_lose 5 (some .int) ∈ wU := mU (tb4 (List.mem_of_getElem? (i := 151) (by decide +kernel))) rfl
theorem mL_RX5_171 : Cond.methodLink RX5 171 yX5_reasonToLose ∈ wU := mU (tb4 (List.mem_of_getElem? (i := 152) (by decide +kernel))) rfl
theorem mI_X5_reasonToLose : Cond.instanceMethod yX5_reasonToLose ∈ wU := mU (tb4 (List.mem_of_getElem? (i := 154) (by decide +kernel))) rfl
theorem mC_X5_reasonToLose : Cond.code yX5_reasonToLose cX5_reasonToLose 2 (some .int) ∈ wU := mU (tb4 (List.mem_of_getElem? (i := 155) (by decide +kernel))) rfl
theorem mL_RL_77 : Cond.methodLink RL 77 yX5_hold_ ∈ wU := mU (tb4 (List.mem_of_getElem? (i := 156) (by decide +kernel))) rfl
theorem mI_X5_hold_ : Cond.instanceMethod yX5_hold_ ∈ wU := mU (tb4 (List.mem_of_getElem? (i := 157) (by decide +kernel))) rfl
theorem mS_X5_hold_ : Cond.selects RX5 yX5_hold_ yX5_hold_ ∈ wU := mU (tb4 (List.mem_of_getElem? (i := 158) (by decide +kernel))) rfl
theorem mC_X5_hold_ : Cond.code yX5_hold_ cX5_hold_ 4 (some .int) ∈ wU := mU (tb4 (List.mem_of_getElem? (i := 159) (by decide +kernel))) rfl
theorem mL_RX5_188 : Cond.methodLink RX5 188 yX5_laysHold ∈ wU := mU (tb4 (List.mem_of_getElem? (i := 160) (by decide +kernel))) rfl
theorem mI_X5_laysHold : Cond.instanceMethod yX5_laysHold ∈ wU := mU (tb4 (List.mem_of_getElem? (i := 162) (by decide +kernel))) rfl
theorem mC_X5_laysHold : Cond.code yX5_laysHold cX5_laysHold 7 (some .int) ∈ wU := mU (tb4 (List.mem_of_getElem? (i := 163) (by decide +kernel))) rfl
theorem mL_RX5_179 : Cond.methodLink RX5 179 yX5_reasonToHold ∈ wU := mU (tb4 (List.mem_of_getElem? (i := 164) (by decide +kernel))) rfl
theorem mI_X5_reasonToHold : Cond.instanceMethod yX5_reasonToHold ∈ wU := mU (tb4 (List.mem_of_getElem? (i := 166) (by decide +kernel))) rfl
theorem mC_X5_reasonToHold : Cond.code yX5_reasonToHold cX5_reasonToHold 5 (some .int) ∈ wU := mU (tb4 (List.mem_of_getElem? (i := 167) (by decide +kernel))) rfl
theorem mL_RX5_174 : Cond.methodLink RX5 174 yX5_holdBy ∈ wU := mU (tb4 (List.mem_of_getElem? (i := 168) (by decide +kernel))) rfl
theorem mI_X5_holdBy : Cond.instanceMethod yX5_holdBy ∈ wU := mU (tb4 (List.mem_of_getElem? (i := 170) (by decide +kernel))) rfl
theorem mC_X5_holdBy : Cond.code yX5_holdBy cX5_holdBy 4 (some .int) ∈ wU := mU (tb4 (List.mem_of_getElem? (i := 171) (by decide +kernel))) rfl
theorem mL_RX5_182 : Cond.methodLink RX5 182 yX5_nearest ∈ wU := mU (tb4 (List.mem_of_getElem? (i := 172) (by decide +kernel))) rfl
theorem mI_X5_nearest : Cond.instanceMethod yX5_nearest ∈ wU := mU (tb4 (List.mem_of_getElem? (i := 174) (by decide +kernel))) rfl
theorem mC_X5_nearest : Cond.code yX5_nearest cX5_nearest 5 (some .int) ∈ wU := mU (tb4 (List.mem_of_getElem? (i := 175) (by decide +kernel))) rfl
theorem mL_RX5_185 : Cond.methodLink RX5 185 yX5_recalls ∈ wU := mU (tb4 (List.mem_of_getElem? (i := 176) (by decide +kernel))) rfl
theorem mI_X5_recalls : Cond.instanceMethod yX5_recalls ∈ wU := mU (tb4 (List.mem_of_getElem? (i := 178) (by decide +kernel))) rfl
theorem mC_X5_recalls : Cond.code yX5_recalls cX5_recalls 4 none ∈ wU := mU (tb4 (List.mem_of_getElem? (i := 179) (by decide +kernel))) rfl
theorem mL_RX5_177 : Cond.methodLink RX5 177 ⟨"java/lang/Math", "min", "(II)I"⟩ ∈ wU := mU (tb4 (List.mem_of_getElem? (i := 180) (by decide +kernel))) rfl
theorem mL_RL_81 : Cond.methodLink RL 81 yX5_cancelHold ∈ wU := mU (tb4 (List.mem_of_getElem? (i := 181) (by decide +kernel))) rfl
theorem mI_X5_cancelHold : Cond.instanceMethod yX5_cancelHold ∈ wU := mU (tb4 (List.mem_of_getElem? (i := 182) (by decide +kernel))) rfl
theorem mS_X5_cancelHold : Cond.selects RX5 yX5_cancelHold yX5_cancelHold ∈ wU := mU (tb4 (List.mem_of_getElem? (i := 183) (by decide +kernel))) rfl
theorem mC_X5_cancelHold : Cond.code yX5_cancelHold cX5_cancelHold 3 (some .int) ∈ wU := mU (tb4 (List.mem_of_getElem? (i := 184) (by decide +kernel))) rfl
theorem mL_RX5_195 : Cond.methodLink RX5 195 yX5_cancels ∈ wU := mU (tb4 (List.mem_of_getElem? (i := 185) (by decide +kernel))) rfl
theorem mI_X5_cancels : Cond.instanceMethod yX5_cancels ∈ wU := mU (tb4 (List.mem_of_getElem? (i := 187) (by decide +kernel))) rfl
theorem mC_X5_cancels : Cond.code yX5_cancels cX5_cancels 5 (some .int) ∈ wU := mU (tb4 (List.mem_of_getElem? (i := 188) (by decide +kernel))) rfl
theorem mL_RX5_192 : Cond.methodLink RX5 192 yX5_holds ∈ wU := mU (tb4 (List.mem_of_getElem? (i := 189) (by decide +kernel))) rfl
theorem mI_X5_holds : Cond.instanceMethod yX5_holds ∈ wU := mU (tb4 (List.mem_of_getElem? (i := 191) (by decide +kernel))) rfl
theorem mC_X5_holds : Cond.code yX5_holds cX5_holds 4 (some .int) ∈ wU := mU (tb4 (List.mem_of_getElem? (i := 192) (by decide +kernel))) rfl
theorem mL_RL_85 : Cond.methodLink RL 85 yX5_reason ∈ wU := mU (tb4 (List.mem_of_getElem? (i := 193) (by decide +kernel))) rfl
theorem mI_X5_reason : Cond.instanceMethod yX5_reason ∈ wU := mU (tb4 (List.mem_of_getElem? (i := 194) (by decide +kernel))) rfl
theorem mS_X5_reason : Cond.selects RX5 yX5_reason yX5_reason ∈ wU := mU (tb4 (List.mem_of_getElem? (i := 195) (by decide +kernel))) rfl
theorem mC_X5_reason : Cond.code yX5_reason cX5_reason 4 (some .int) ∈ wU := mU (tb4 (List.mem_of_getElem? (i := 196) (by decide +kernel))) rfl
theorem mL_RL_89 : Cond.methodLink RL 89 yX5_holdCount ∈ wU := mU (tb4 (List.mem_of_getElem? (i := 197) (by decide +kernel))) rfl
theorem mI_X5_holdCount : Cond.instanceMethod yX5_holdCount ∈ wU := mU (tb4 (List.mem_of_getElem? (i := 198) (by decide +kernel))) rfl
theorem mS_X5_holdCount : Cond.selects RX5 yX5_holdCount yX5_holdCount ∈ wU := mU (tb4 (List.mem_of_getElem? (i := 199) (by decide +kernel))) rfl
theorem mC_X5_holdCount : Cond.code yX5_holdCount cX5_holdCount 2 (some .int) ∈ wU := mU (tb4 (List.mem_of_getElem? (i := 200) (by decide +kernel))) rfl
theorem mL_RL_93 : Cond.methodLink RL 93 yX5_waiting ∈ wU := mU (tb4 (List.mem_of_getElem? (i := 201) (by decide +kernel))) rfl
theorem mI_X5_waiting : Cond.instanceMethod yX5_waiting ∈ wU := mU (tb4 (List.mem_of_getElem? (i := 202) (by decide +kernel))) rfl
theorem mS_X5_waiting : Cond.selects RX5 yX5_waiting yX5_waiting ∈ wU := mU (tb4 (List.mem_of_getElem? (i := 203) (by decide +kernel))) rfl
theorem mC_X5_waiting : Cond.code yX5_waiting cX5_waiting 2 (some .int) ∈ wU := mU (tb4 (List.mem_of_getElem? (i := 204) (by decide +kernel))) rfl
theorem mL_RL_97 : Cond.methodLink RL 97 yX5_holdAt ∈ wU := mU (tb4 (List.mem_of_getElem? (i := 205) (by decide +kernel))) rfl
theorem mI_X5_holdAt : Cond.instanceMethod yX5_holdAt ∈ wU := mU (tb4 (List.mem_of_getElem? (i := 206) (by decide +kernel))) rfl
theorem mS_X5_holdAt : Cond.selects RX5 yX5_holdAt yX5_holdAt ∈ wU := mU (tb4 (List.mem_of_getElem? (i := 207) (by decide +kernel))) rfl
theorem mC_X5_holdAt : Cond.code yX5_holdAt cX5_holdAt 6 (some .int) ∈ wU := mU (tb4 (List.mem_of_getElem? (i := 208) (by decide +kernel))) rfl
theorem mL_RL_101 : Cond.methodLink RL 101 yX5_place ∈ wU := mU (tb4 (List.mem_of_getElem? (i := 209) (by decide +kernel))) rfl
theorem mI_X5_place : Cond.instanceMethod yX5_place ∈ wU := mU (tb4 (List.mem_of_getElem? (i := 210) (by decide +kernel))) rfl
theorem mS_X5_place : Cond.selects RX5 yX5_place yX5_place ∈ wU := mU (tb4 (List.mem_of_getElem? (i := 211) (by decide +kernel))) rfl
theorem mC_X5_place : Cond.code yX5_place cX5_place 6 (some .int) ∈ wU := mU (tb4 (List.mem_of_getElem? (i := 212) (by decide +kernel))) rfl
theorem mL_RL_105 : Cond.methodLink RL 105 yX5_estimate ∈ wU := mU (tb4 (List.mem_of_getElem? (i := 213) (by decide +kernel))) rfl
theorem mI_X5_estimate : Cond.instanceMethod yX5_estimate ∈ wU := mU (tb4 (List.mem_of_getElem? (i := 214) (by decide +kernel))) rfl
theorem mS_X5_estimate : Cond.selects RX5 yX5_estimate yX5_estimate ∈ wU := mU (tb4 (List.mem_of_getElem? (i := 215) (by decide +kernel))) rfl
theorem mC_X5_estimate : Cond.code yX5_estimate cX5_estimate 10 (some .int) ∈ wU := mU (tb4 (List.mem_of_getElem? (i := 216) (by decide +kernel))) rfl
theorem mL_RX5_198 : Cond.methodLink RX5 198 yX5_freeDay ∈ wU := mU (tb4 (List.mem_of_getElem? (i := 217) (by decide +kernel))) rfl
theorem mI_X5_freeDay : Cond.instanceMethod yX5_freeDay ∈ wU := mU (tb4 (List.mem_of_getElem? (i := 219) (by decide +kernel))) rfl
theorem mC_X5_freeDay : Cond.code yX5_freeDay cX5_freeDay 3 (some .int) ∈ wU := mU (tb4 (List.mem_of_getElem? (i := 220) (by decide +kernel))) rfl
theorem mL_RL_109 : Cond.methodLink RL 109 yX5_patronCount ∈ wU := mU (tb4 (List.mem_of_getElem? (i := 221) (by decide +kernel))) rfl
theorem mI_X5_patronCount : Cond.instanceMethod yX5_patronCount ∈ wU := mU (tb4 (List.mem_of_getElem? (i := 222) (by decide +kernel))) rfl
theorem mS_X5_patronCount : Cond.selects RX5 yX5_patronCount yX5_patronCount ∈ wU := mU (tb4 (List.mem_of_getElem? (i := 223) (by decide +kernel))) rfl
theorem mC_X5_patronCount : Cond.code yX5_patronCount cX5_patronCount 1 (some .int) ∈ wU := mU (tb4 (List.mem_of_getElem? (i := 224) (by decide +kernel))) rfl
theorem mL_RL_113 : Cond.methodLink RL 113 yX5_owes_ ∈ wU := mU (tb4 (List.mem_of_getElem? (i := 225) (by decide +kernel))) rfl
theorem mI_X5_owes_ : Cond.instanceMethod yX5_owes_ ∈ wU := mU (tb4 (List.mem_of_getElem? (i := 226) (by decide +kernel))) rfl
theorem mS_X5_owes_ : Cond.selects RX5 yX5_owes_ yX5_owes_ ∈ wU := mU (tb4 (List.mem_of_getElem? (i := 227) (by decide +kernel))) rfl
theorem mC_X5_owes_ : Cond.code yX5_owes_ cX5_owes_ 2 (some .int) ∈ wU := mU (tb4 (List.mem_of_getElem? (i := 228) (by decide +kernel))) rfl
theorem mL_RL_117 : Cond.methodLink RL 117 yX5_accrued ∈ wU := mU (tb4 (List.mem_of_getElem? (i := 229) (by decide +kernel))) rfl
theorem mI_X5_accrued : Cond.instanceMethod yX5_accrued ∈ wU := mU (tb4 (List.mem_of_getElem? (i := 230) (by decide +kernel))) rfl
theorem mS_X5_accrued : Cond.selects RX5 yX5_accrued yX5_accrued ∈ wU := mU (tb4 (List.mem_of_getElem? (i := 231) (by decide +kernel))) rfl
theorem mC_X5_accrued : Cond.code yX5_accrued cX5_accrued 4 (some .int) ∈ wU := mU (tb4 (List.mem_of_getElem? (i := 232) (by decide +kernel))) rfl
theorem mL_RL_121 : Cond.methodLink RL 121 yX5_patron ∈ wU := mU (tb4 (List.mem_of_getElem? (i := 233) (by decide +kernel))) rfl
theorem mI_X5_patron : Cond.instanceMethod yX5_patron ∈ wU := mU (tb4 (List.mem_of_getElem? (i := 234) (by decide +kernel))) rfl
theorem mS_X5_patron : Cond.selects RX5 yX5_patron yX5_patron ∈ wU := mU (tb4 (List.mem_of_getElem? (i := 235) (by decide +kernel))) rfl
theorem mC_X5_patron : Cond.code yX5_patron cX5_patron 3 (some .int) ∈ wU := mU (tb4 (List.mem_of_getElem? (i := 236) (by decide +kernel))) rfl
theorem mL_RX5_201 : Cond.methodLink RX5 201 yX5_holdsOf ∈ wU := mU (tb4 (List.mem_of_getElem? (i := 237) (by decide +kernel))) rfl
theorem mI_X5_holdsOf : Cond.instanceMethod yX5_holdsOf ∈ wU := mU (tb4 (List.mem_of_getElem? (i := 239) (by decide +kernel))) rfl
theorem mC_X5_holdsOf : Cond.code yX5_holdsOf cX5_holdsOf 4 (some .int) ∈ wU := mU (tb5 (List.mem_of_getElem? (i := 0) (by decide +kernel))) rfl
theorem mL_RX5_204 : Cond.methodLink RX5 204 yX5_overdue ∈ wU := mU (tb5 (List.mem_of_getElem? (i := 1) (by decide +kernel))) rfl
theorem mI_X5_overdue : Cond.instanceMethod yX5_overdue ∈ wU := mU (tb5 (List.mem_of_getElem? (i := 3) (by decide +kernel))) rfl
theorem mC_X5_overdue : Cond.code yX5_overdue cX5_overdue 4 (some .int) ∈ wU := mU (tb5 (List.mem_of_getElem? (i := 4) (by decide +kernel))) rfl
theorem mL_RL_125 : Cond.methodLink RL 125 yX5_loanOf ∈ wU := mU (tb5 (List.mem_of_getElem? (i := 5) (by decide +kernel))) rfl
theorem mI_X5_loanOf : Cond.instanceMethod yX5_loanOf ∈ wU := mU (tb5 (List.mem_of_getElem? (i := 6) (by decide +kernel))) rfl
theorem mS_X5_loanOf : Cond.selects RX5 yX5_loanOf yX5_loanOf ∈ wU := mU (tb5 (List.mem_of_getElem? (i := 7) (by decide +kernel))) rfl
theorem mC_X5_loanOf : Cond.code yX5_loanOf cX5_loanOf 3 (some .int) ∈ wU := mU (tb5 (List.mem_of_getElem? (i := 8) (by decide +kernel))) rfl
theorem mL_RX5_207 : Cond.methodLink RX5 207 yX5_byDate ∈ wU := mU (tb5 (List.mem_of_getElem? (i := 9) (by decide +kernel))) rfl
theorem mI_X5_byDate : Cond.instanceMethod yX5_byDate ∈ wU := mU (tb5 (List.mem_of_getElem? (i := 11) (by decide +kernel))) rfl
theorem mC_X5_byDate : Cond.code yX5_byDate cX5_byDate 8 (some .int) ∈ wU := mU (tb5 (List.mem_of_getElem? (i := 12) (by decide +kernel))) rfl
theorem mL_RL_129 : Cond.methodLink RL 129 yX5_fine ∈ wU := mU (tb5 (List.mem_of_getElem? (i := 13) (by decide +kernel))) rfl
theorem mI_X5_fine : Cond.instanceMethod yX5_fine ∈ wU := mU (tb5 (List.mem_of_getElem? (i := 14) (by decide +kernel))) rfl
theorem mS_X5_fine : Cond.selects RX5 yX5_fine yX5_fine ∈ wU := mU (tb5 (List.mem_of_getElem? (i := 15) (by decide +kernel))) rfl
theorem mC_X5_fine : Cond.code yX5_fine cX5_fine 3 (some .int) ∈ wU := mU (tb5 (List.mem_of_getElem? (i := 16) (by decide +kernel))) rfl
theorem mL_RL_133 : Cond.methodLink RL 133 yX5_pay ∈ wU := mU (tb5 (List.mem_of_getElem? (i := 17) (by decide +kernel))) rfl
theorem mI_X5_pay : Cond.instanceMethod yX5_pay ∈ wU := mU (tb5 (List.mem_of_getElem? (i := 18) (by decide +kernel))) rfl
theorem mS_X5_pay : Cond.selects RX5 yX5_pay yX5_pay ∈ wU := mU (tb5 (List.mem_of_getElem? (i := 19) (by decide +kernel))) rfl
theorem mC_X5_pay : Cond.code yX5_pay cX5_pay 3 (some .int) ∈ wU := mU (tb5 (List.mem_of_getElem? (i := 20) (by decide +kernel))) rfl
theorem mL_RX5_210 : Cond.methodLink RX5 210 yX5_lessens ∈ wU := mU (tb5 (List.mem_of_getElem? (i := 21) (by decide +kernel))) rfl
theorem mI_X5_lessens : Cond.instanceMethod yX5_lessens ∈ wU := mU (tb5 (List.mem_of_getElem? (i := 23) (by decide +kernel))) rfl
theorem mC_X5_lessens : Cond.code yX5_lessens cX5_lessens 4 (some .int) ∈ wU := mU (tb5 (List.mem_of_getElem? (i := 24) (by decide +kernel))) rfl
theorem mL_RL_137 : Cond.methodLink RL 137 yX5_waive ∈ wU := mU (tb5 (List.mem_of_getElem? (i := 25) (by decide +kernel))) rfl
theorem mI_X5_waive : Cond.instanceMethod yX5_waive ∈ wU := mU (tb5 (List.mem_of_getElem? (i := 26) (by decide +kernel))) rfl
theorem mS_X5_waive : Cond.selects RX5 yX5_waive yX5_waive ∈ wU := mU (tb5 (List.mem_of_getElem? (i := 27) (by decide +kernel))) rfl
theorem mC_X5_waive : Cond.code yX5_waive cX5_waive 3 (some .int) ∈ wU := mU (tb5 (List.mem_of_getElem? (i := 28) (by decide +kernel))) rfl
theorem mL_RL_141 : Cond.methodLink RL 141 yX5_ledgerSize ∈ wU := mU (tb5 (List.mem_of_getElem? (i := 29) (by decide +kernel))) rfl
theorem mI_X5_ledgerSize : Cond.instanceMethod yX5_ledgerSize ∈ wU := mU (tb5 (List.mem_of_getElem? (i := 30) (by decide +kernel))) rfl
theorem mS_X5_ledgerSize : Cond.selects RX5 yX5_ledgerSize yX5_ledgerSize ∈ wU := mU (tb5 (List.mem_of_getElem? (i := 31) (by decide +kernel))) rfl
theorem mC_X5_ledgerSize : Cond.code yX5_ledgerSize cX5_ledgerSize 1 (some .int) ∈ wU := mU (tb5 (List.mem_of_getElem? (i := 32) (by decide +kernel))) rfl
theorem mL_RL_145 : Cond.methodLink RL 145 yX5_ledger ∈ wU := mU (tb5 (List.mem_of_getElem? (i := 33) (by decide +kernel))) rfl
theorem mI_X5_ledger : Cond.instanceMethod yX5_ledger ∈ wU := mU (tb5 (List.mem_of_getElem? (i := 34) (by decide +kernel))) rfl
theorem mS_X5_ledger : Cond.selects RX5 yX5_ledger yX5_ledger ∈ wU := mU (tb5 (List.mem_of_getElem? (i := 35) (by decide +kernel))) rfl
theorem mC_X5_ledger : Cond.code yX5_ledger cX5_ledger 3 (some .int) ∈ wU := mU (tb5 (List.mem_of_getElem? (i := 36) (by decide +kernel))) rfl
theorem mK_RX5_213 : Cond.constant RX5 213 (-2147483648) ∈ wU := mU (tb5 (List.mem_of_getElem? (i := 37) (by decide +kernel))) rfl
theorem mL_RL_149 : Cond.methodLink RL 149 yX5_ledgerSum ∈ wU := mU (tb5 (List.mem_of_getElem? (i := 38) (by decide +kernel))) rfl
theorem mI_X5_ledgerSum : Cond.instanceMethod yX5_ledgerSum ∈ wU := mU (tb5 (List.mem_of_getElem? (i := 39) (by decide +kernel))) rfl
theorem mS_X5_ledgerSum : Cond.selects RX5 yX5_ledgerSum yX5_ledgerSum ∈ wU := mU (tb5 (List.mem_of_getElem? (i := 40) (by decide +kernel))) rfl
theorem mC_X5_ledgerSum : Cond.code yX5_ledgerSum cX5_ledgerSum 6 (some .int) ∈ wU := mU (tb5 (List.mem_of_getElem? (i := 41) (by decide +kernel))) rfl
theorem mL_RL_153 : Cond.methodLink RL 153 yX5_shelf ∈ wU := mU (tb5 (List.mem_of_getElem? (i := 42) (by decide +kernel))) rfl
theorem mI_X5_shelf : Cond.instanceMethod yX5_shelf ∈ wU := mU (tb5 (List.mem_of_getElem? (i := 43) (by decide +kernel))) rfl
theorem mS_X5_shelf : Cond.selects RX5 yX5_shelf yX5_shelf ∈ wU := mU (tb5 (List.mem_of_getElem? (i := 44) (by decide +kernel))) rfl
theorem mC_X5_shelf : Cond.code yX5_shelf cX5_shelf 5 (some .int) ∈ wU := mU (tb5 (List.mem_of_getElem? (i := 45) (by decide +kernel))) rfl
theorem mL_RL_157 : Cond.methodLink RL 157 yX5_arriving ∈ wU := mU (tb5 (List.mem_of_getElem? (i := 46) (by decide +kernel))) rfl
theorem mI_X5_arriving : Cond.instanceMethod yX5_arriving ∈ wU := mU (tb5 (List.mem_of_getElem? (i := 47) (by decide +kernel))) rfl
theorem mS_X5_arriving : Cond.selects RX5 yX5_arriving yX5_arriving ∈ wU := mU (tb5 (List.mem_of_getElem? (i := 48) (by decide +kernel))) rfl
theorem mC_X5_arriving : Cond.code yX5_arriving cX5_arriving 3 (some .int) ∈ wU := mU (tb5 (List.mem_of_getElem? (i := 49) (by decide +kernel))) rfl
theorem mL_RL_161 : Cond.methodLink RL 161 yX5_feed ∈ wU := mU (tb5 (List.mem_of_getElem? (i := 50) (by decide +kernel))) rfl
theorem mI_X5_feed : Cond.instanceMethod yX5_feed ∈ wU := mU (tb5 (List.mem_of_getElem? (i := 51) (by decide +kernel))) rfl
theorem mS_X5_feed : Cond.selects RX5 yX5_feed yX5_feed ∈ wU := mU (tb5 (List.mem_of_getElem? (i := 52) (by decide +kernel))) rfl
theorem mC_X5_feed : Cond.code yX5_feed cX5_feed 2 (some .int) ∈ wU := mU (tb5 (List.mem_of_getElem? (i := 53) (by decide +kernel))) rfl
theorem mL_RL_165 : Cond.methodLink RL 165 yX5_execute ∈ wU := mU (tb5 (List.mem_of_getElem? (i := 54) (by decide +kernel))) rfl
theorem mI_X5_execute : Cond.instanceMethod yX5_execute ∈ wU := mU (tb5 (List.mem_of_getElem? (i := 55) (by decide +kernel))) rfl
theorem mS_X5_execute : Cond.selects RX5 yX5_execute yX5_execute ∈ wU := mU (tb5 (List.mem_of_getElem? (i := 56) (by decide +kernel))) rfl
theorem mC_X5_execute : Cond.code yX5_execute cX5_execute 3 (some .int) ∈ wU := mU (tb5 (List.mem_of_getElem? (i := 57) (by decide +kernel))) rfl
theorem mL_RX5_221 : Cond.methodLink RX5 221 yX5_command ∈ wU := mU (tb5 (List.mem_of_getElem? (i := 58) (by decide +kernel))) rfl
theorem mI_X5_command : Cond.instanceMethod yX5_command ∈ wU := mU (tb5 (List.mem_of_getElem? (i := 60) (by decide +kernel))) rfl
theorem mC_X5_command : Cond.code yX5_command cX5_command 4 (some .int) ∈ wU := mU (tb5 (List.mem_of_getElem? (i := 61) (by decide +kernel))) rfl
theorem mL_RX5_214 : Cond.methodLink RX5 214 yX5_sign ∈ wU := mU (tb5 (List.mem_of_getElem? (i := 62) (by decide +kernel))) rfl
theorem mI_X5_sign : Cond.instanceMethod yX5_sign ∈ wU := mU (tb5 (List.mem_of_getElem? (i := 64) (by decide +kernel))) rfl
theorem mC_X5_sign : Cond.code yX5_sign cX5_sign 1 (some .int) ∈ wU := mU (tb5 (List.mem_of_getElem? (i := 65) (by decide +kernel))) rfl
theorem mL_RX5_218 : Cond.methodLink RX5 218 yX5_number ∈ wU := mU (tb5 (List.mem_of_getElem? (i := 66) (by decide +kernel))) rfl
theorem mI_X5_number : Cond.instanceMethod yX5_number ∈ wU := mU (tb5 (List.mem_of_getElem? (i := 68) (by decide +kernel))) rfl
theorem mC_X5_number : Cond.code yX5_number cX5_number 3 (some .int) ∈ wU := mU (tb5 (List.mem_of_getElem? (i := 69) (by decide +kernel))) rfl
theorem mL_RX5_224 : Cond.methodLink RX5 224 yX5_does ∈ wU := mU (tb5 (List.mem_of_getElem? (i := 70) (by decide +kernel))) rfl
theorem mI_X5_does : Cond.instanceMethod yX5_does ∈ wU := mU (tb5 (List.mem_of_getElem? (i := 72) (by decide +kernel))) rfl
theorem mC_X5_does : Cond.code yX5_does cX5_does 2 (some .int) ∈ wU := mU (tb5 (List.mem_of_getElem? (i := 73) (by decide +kernel))) rfl
theorem mL_RL_169 : Cond.methodLink RL 169 yX5_save ∈ wU := mU (tb5 (List.mem_of_getElem? (i := 74) (by decide +kernel))) rfl
theorem mI_X5_save : Cond.instanceMethod yX5_save ∈ wU := mU (tb5 (List.mem_of_getElem? (i := 75) (by decide +kernel))) rfl
theorem mS_X5_save : Cond.selects RX5 yX5_save yX5_save ∈ wU := mU (tb5 (List.mem_of_getElem? (i := 76) (by decide +kernel))) rfl
theorem mC_X5_save : Cond.code yX5_save cX5_save 1 (some .int) ∈ wU := mU (tb5 (List.mem_of_getElem? (i := 77) (by decide +kernel))) rfl
theorem mL_RL_173 : Cond.methodLink RL 173 yX5_restore ∈ wU := mU (tb5 (List.mem_of_getElem? (i := 78) (by decide +kernel))) rfl
theorem mI_X5_restore : Cond.instanceMethod yX5_restore ∈ wU := mU (tb5 (List.mem_of_getElem? (i := 79) (by decide +kernel))) rfl
theorem mS_X5_restore : Cond.selects RX5 yX5_restore yX5_restore ∈ wU := mU (tb5 (List.mem_of_getElem? (i := 80) (by decide +kernel))) rfl
theorem mC_X5_restore : Cond.code yX5_restore cX5_restore 1 (some .int) ∈ wU := mU (tb5 (List.mem_of_getElem? (i := 81) (by decide +kernel))) rfl
theorem mL_RL_177 : Cond.methodLink RL 177 yX5_undo ∈ wU := mU (tb5 (List.mem_of_getElem? (i := 82) (by decide +kernel))) rfl
theorem mI_X5_undo : Cond.instanceMethod yX5_undo ∈ wU := mU (tb5 (List.mem_of_getElem? (i := 83) (by decide +kernel))) rfl
theorem mS_X5_undo : Cond.selects RX5 yX5_undo yX5_undo ∈ wU := mU (tb5 (List.mem_of_getElem? (i := 84) (by decide +kernel))) rfl
theorem mC_X5_undo : Cond.code yX5_undo cX5_undo 1 (some .int) ∈ wU := mU (tb5 (List.mem_of_getElem? (i := 85) (by decide +kernel))) rfl
theorem mS_X4_becomeFree : Cond.selects RX4 yX4_becomeFree yX4_becomeFree ∈ wU := mU (List.mem_append_left _ (List.mem_of_getElem? (i := 0) (by decide +kernel))) rfl
theorem mS_X4_titleOf : Cond.selects RX4 yX4_titleOf yX4_titleOf ∈ wU := mU (List.mem_append_left _ (List.mem_of_getElem? (i := 1) (by decide +kernel))) rfl
theorem mS_X4_firstWaiting : Cond.selects RX4 yX4_firstWaiting yX4_firstWaiting ∈ wU := mU (List.mem_append_left _ (List.mem_of_getElem? (i := 2) (by decide +kernel))) rfl
theorem mS_X4_isWaiting : Cond.selects RX4 yX4_isWaiting yX4_isWaiting ∈ wU := mU (List.mem_append_left _ (List.mem_of_getElem? (i := 3) (by decide +kernel))) rfl
theorem mS_X4_putLoan : Cond.selects RX4 yX4_putLoan yX4_putLoan ∈ wU := mU (List.mem_append_left _ (List.mem_of_getElem? (i := 4) (by decide +kernel))) rfl
theorem mS_X4_putCopy : Cond.selects RX4 yX4_putCopy yX4_putCopy ∈ wU := mU (List.mem_append_left _ (List.mem_of_getElem? (i := 5) (by decide +kernel))) rfl
theorem mS_X4_valueOf : Cond.selects RX4 yX4_valueOf yX4_valueOf ∈ wU := mU (List.mem_append_left _ (List.mem_of_getElem? (i := 6) (by decide +kernel))) rfl
theorem mS_X4_settle : Cond.selects RX4 yX4_settle yX4_settle ∈ wU := mU (List.mem_append_left _ (List.mem_of_getElem? (i := 7) (by decide +kernel))) rfl
theorem mS_X4_commit : Cond.selects RX4 yX4_commit yX4_commit ∈ wU := mU (List.mem_append_left _ (List.mem_of_getElem? (i := 8) (by decide +kernel))) rfl
theorem mS_X1_at : Cond.selects RX1 yX1_at yX1_at ∈ wU := mU (List.mem_append_left _ (List.mem_of_getElem? (i := 9) (by decide +kernel))) rfl
theorem mS_X4_isCopy : Cond.selects RX4 yX4_isCopy yX4_isCopy ∈ wU := mU (List.mem_append_left _ (List.mem_of_getElem? (i := 10) (by decide +kernel))) rfl
theorem mS_X4_stateOf : Cond.selects RX4 yX4_stateOf yX4_stateOf ∈ wU := mU (List.mem_append_left _ (List.mem_of_getElem? (i := 11) (by decide +kernel))) rfl
theorem mS_X4_letPass : Cond.selects RX4 yX4_letPass yX4_letPass ∈ wU := mU (List.mem_append_left _ (List.mem_of_getElem? (i := 12) (by decide +kernel))) rfl
theorem mS_X4_arriveOnThisDay : Cond.selects RX4 yX4_arriveOnThisDay yX4_arriveOnThisDay ∈ wU := mU (List.mem_append_left _ (List.mem_of_getElem? (i := 13) (by decide +kernel))) rfl
theorem mS_X4_expireBeforeThisDay : Cond.selects RX4 yX4_expireBeforeThisDay yX4_expireBeforeThisDay ∈ wU := mU (List.mem_append_left _ (List.mem_of_getElem? (i := 14) (by decide +kernel))) rfl
theorem mS_X4_findHold : Cond.selects RX4 yX4_findHold yX4_findHold ∈ wU := mU (List.mem_append_left _ (List.mem_of_getElem? (i := 15) (by decide +kernel))) rfl
theorem mS_X4_removeHold : Cond.selects RX4 yX4_removeHold yX4_removeHold ∈ wU := mU (List.mem_append_left _ (List.mem_of_getElem? (i := 16) (by decide +kernel))) rfl
theorem mS_X4_endClaims : Cond.selects RX4 yX4_endClaims yX4_endClaims ∈ wU := mU (List.mem_append_left _ (List.mem_of_getElem? (i := 17) (by decide +kernel))) rfl
theorem mS_X4_becomeLost : Cond.selects RX4 yX4_becomeLost yX4_becomeLost ∈ wU := mU (List.mem_append_left _ (List.mem_of_getElem? (i := 18) (by decide +kernel))) rfl
theorem mS_X4_fineOf : Cond.selects RX4 yX4_fineOf yX4_fineOf ∈ wU := mU (List.mem_append_left _ (List.mem_of_getElem? (i := 19) (by decide +kernel))) rfl
theorem mS_X4_enter : Cond.selects RX4 yX4_enter yX4_enter ∈ wU := mU (List.mem_append_left _ (List.mem_of_getElem? (i := 20) (by decide +kernel))) rfl
theorem mS_X4_lendOut : Cond.selects RX4 yX4_lendOut yX4_lendOut ∈ wU := mU (List.mem_append_left _ (List.mem_of_getElem? (i := 21) (by decide +kernel))) rfl
theorem mS_X4_reasonAgainstLending : Cond.selects RX4 yX4_reasonAgainstLending yX4_reasonAgainstLending ∈ wU := mU (List.mem_append_left _ (List.mem_of_getElem? (i := 22) (by decide +kernel))) rfl
theorem mS_X4_isPatron : Cond.selects RX4 yX4_isPatron yX4_isPatron ∈ wU := mU (List.mem_append_left _ (List.mem_of_getElem? (i := 23) (by decide +kernel))) rfl
theorem mS_X4_owesTheLimit : Cond.selects RX4 yX4_owesTheLimit yX4_owesTheLimit ∈ wU := mU (List.mem_append_left _ (List.mem_of_getElem? (i := 24) (by decide +kernel))) rfl
theorem mS_X4_loanCount : Cond.selects RX4 yX4_loanCount yX4_loanCount ∈ wU := mU (List.mem_append_left _ (List.mem_of_getElem? (i := 25) (by decide +kernel))) rfl
theorem mS_X4_isAt : Cond.selects RX4 yX4_isAt yX4_isAt ∈ wU := mU (List.mem_append_left _ (List.mem_of_getElem? (i := 26) (by decide +kernel))) rfl
theorem mS_X4_canBeTakenBy : Cond.selects RX4 yX4_canBeTakenBy yX4_canBeTakenBy ∈ wU := mU (List.mem_append_left _ (List.mem_of_getElem? (i := 27) (by decide +kernel))) rfl
theorem mS_X4_takeBack : Cond.selects RX4 yX4_takeBack yX4_takeBack ∈ wU := mU (List.mem_append_left _ (List.mem_of_getElem? (i := 28) (by decide +kernel))) rfl
theorem mS_X4_isWithPatron : Cond.selects RX4 yX4_isWithPatron yX4_isWithPatron ∈ wU := mU (List.mem_append_left _ (List.mem_of_getElem? (i := 29) (by decide +kernel))) rfl
theorem mS_X4_renewLoan : Cond.selects RX4 yX4_renewLoan yX4_renewLoan ∈ wU := mU (List.mem_append_left _ (List.mem_of_getElem? (i := 30) (by decide +kernel))) rfl
theorem mS_X4_reasonAgainstRenewing : Cond.selects RX4 yX4_reasonAgainstRenewing yX4_reasonAgainstRenewing ∈ wU := mU (List.mem_append_left _ (List.mem_of_getElem? (i := 31) (by decide +kernel))) rfl
theorem mS_X4_reasonAgainstClaiming : Cond.selects RX4 yX4_reasonAgainstClaiming yX4_reasonAgainstClaiming ∈ wU := mU (List.mem_append_left _ (List.mem_of_getElem? (i := 32) (by decide +kernel))) rfl
theorem mS_X4_reasonAgainstLosing : Cond.selects RX4 yX4_reasonAgainstLosing yX4_reasonAgainstLosing ∈ wU := mU (List.mem_append_left _ (List.mem_of_getElem? (i := 33) (by decide +kernel))) rfl
theorem mS_X4_makeHold : Cond.selects RX4 yX4_makeHold yX4_makeHold ∈ wU := mU (List.mem_append_left _ (List.mem_of_getElem? (i := 34) (by decide +kernel))) rfl
theorem mS_X4_reasonAgainstHolding : Cond.selects RX4 yX4_reasonAgainstHolding yX4_reasonAgainstHolding ∈ wU := mU (List.mem_append_left _ (List.mem_of_getElem? (i := 35) (by decide +kernel))) rfl
theorem mS_X4_holdsOf : Cond.selects RX4 yX4_holdsOf yX4_holdsOf ∈ wU := mU (List.mem_append_left _ (List.mem_of_getElem? (i := 36) (by decide +kernel))) rfl
theorem mS_X4_hasLoanOf : Cond.selects RX4 yX4_hasLoanOf yX4_hasLoanOf ∈ wU := mU (List.mem_append_left _ (List.mem_of_getElem? (i := 37) (by decide +kernel))) rfl
theorem mS_X4_nearestOnShelf : Cond.selects RX4 yX4_nearestOnShelf yX4_nearestOnShelf ∈ wU := mU (List.mem_append_left _ (List.mem_of_getElem? (i := 38) (by decide +kernel))) rfl
theorem mS_X4_recallFor : Cond.selects RX4 yX4_recallFor yX4_recallFor ∈ wU := mU (List.mem_append_left _ (List.mem_of_getElem? (i := 39) (by decide +kernel))) rfl
theorem mS_X4_earliestNotRecalled : Cond.selects RX4 yX4_earliestNotRecalled yX4_earliestNotRecalled ∈ wU := mU (List.mem_append_left _ (List.mem_of_getElem? (i := 40) (by decide +kernel))) rfl
theorem mS_X4_waitingBefore : Cond.selects RX4 yX4_waitingBefore yX4_waitingBefore ∈ wU := mU (List.mem_append_left _ (List.mem_of_getElem? (i := 41) (by decide +kernel))) rfl
theorem mS_X4_dropHold : Cond.selects RX4 yX4_dropHold yX4_dropHold ∈ wU := mU (List.mem_append_left _ (List.mem_of_getElem? (i := 42) (by decide +kernel))) rfl
theorem mS_X4_holdsBefore : Cond.selects RX4 yX4_holdsBefore yX4_holdsBefore ∈ wU := mU (List.mem_append_left _ (List.mem_of_getElem? (i := 43) (by decide +kernel))) rfl
theorem mS_X4_expectedDay : Cond.selects RX4 yX4_expectedDay yX4_expectedDay ∈ wU := mU (List.mem_append_left _ (List.mem_of_getElem? (i := 44) (by decide +kernel))) rfl
theorem mS_X4_expectedBefore : Cond.selects RX4 yX4_expectedBefore yX4_expectedBefore ∈ wU := mU (List.mem_append_left _ (List.mem_of_getElem? (i := 45) (by decide +kernel))) rfl
theorem mS_X4_overdueCount : Cond.selects RX4 yX4_overdueCount yX4_overdueCount ∈ wU := mU (List.mem_append_left _ (List.mem_of_getElem? (i := 46) (by decide +kernel))) rfl
theorem mS_X4_nextByDay : Cond.selects RX4 yX4_nextByDay yX4_nextByDay ∈ wU := mU (List.mem_append_left _ (List.mem_of_getElem? (i := 47) (by decide +kernel))) rfl
theorem mS_X4_countBefore : Cond.selects RX4 yX4_countBefore yX4_countBefore ∈ wU := mU (List.mem_append_left _ (List.mem_of_getElem? (i := 48) (by decide +kernel))) rfl
theorem mS_X4_credit : Cond.selects RX4 yX4_credit yX4_credit ∈ wU := mU (List.mem_append_left _ (List.mem_of_getElem? (i := 49) (by decide +kernel))) rfl
theorem mS_X0_readCommand : Cond.selects RX0 yX0_readCommand yX0_readCommand ∈ wU := mU (List.mem_append_left _ (List.mem_of_getElem? (i := 50) (by decide +kernel))) rfl
theorem mS_X0_letterAt : Cond.selects RX0 yX0_letterAt yX0_letterAt ∈ wU := mU (List.mem_append_left _ (List.mem_of_getElem? (i := 51) (by decide +kernel))) rfl
theorem mS_X0_readNumber : Cond.selects RX0 yX0_readNumber yX0_readNumber ∈ wU := mU (List.mem_append_left _ (List.mem_of_getElem? (i := 52) (by decide +kernel))) rfl
theorem mS_X4_runCommand : Cond.selects RX4 yX4_runCommand yX4_runCommand ∈ wU := mU (List.mem_append_left _ (List.mem_of_getElem? (i := 53) (by decide +kernel))) rfl
theorem mS_X5_keeps : Cond.selects RX5 yX5_keeps yX5_keeps ∈ wU := mU (List.mem_append_left _ (List.mem_of_getElem? (i := 54) (by decide +kernel))) rfl
theorem mS_X5_puts : Cond.selects RX5 yX5_puts yX5_puts ∈ wU := mU (List.mem_append_left _ (List.mem_of_getElem? (i := 55) (by decide +kernel))) rfl
theorem mS_X5_frees : Cond.selects RX5 yX5_frees yX5_frees ∈ wU := mU (List.mem_append_left _ (List.mem_of_getElem? (i := 56) (by decide +kernel))) rfl
theorem mS_X5_of : Cond.selects RX5 yX5_of yX5_of ∈ wU := mU (List.mem_append_left _ (List.mem_of_getElem? (i := 57) (by decide +kernel))) rfl
theorem mS_X5_firstWaiting : Cond.selects RX5 yX5_firstWaiting yX5_firstWaiting ∈ wU := mU (List.mem_append_left _ (List.mem_of_getElem? (i := 58) (by decide +kernel))) rfl
theorem mS_X5_hold : Cond.selects RX5 yX5_hold yX5_hold ∈ wU := mU (List.mem_append_left _ (List.mem_of_getElem? (i := 59) (by decide +kernel))) rfl
theorem mS_X5_assigns : Cond.selects RX5 yX5_assigns yX5_assigns ∈ wU := mU (List.mem_append_left _ (List.mem_of_getElem? (i := 60) (by decide +kernel))) rfl
theorem mS_X5_turns : Cond.selects RX5 yX5_turns yX5_turns ∈ wU := mU (List.mem_append_left _ (List.mem_of_getElem? (i := 61) (by decide +kernel))) rfl
theorem mS_X5_made : Cond.selects RX5 yX5_made yX5_made ∈ wU := mU (List.mem_append_left _ (List.mem_of_getElem? (i := 62) (by decide +kernel))) rfl
theorem mS_X5_isCopy : Cond.selects RX5 yX5_isCopy yX5_isCopy ∈ wU := mU (List.mem_append_left _ (List.mem_of_getElem? (i := 63) (by decide +kernel))) rfl
theorem mS_X5_holdOf : Cond.selects RX5 yX5_holdOf yX5_holdOf ∈ wU := mU (List.mem_append_left _ (List.mem_of_getElem? (i := 64) (by decide +kernel))) rfl
theorem mS_X5_passes : Cond.selects RX5 yX5_passes yX5_passes ∈ wU := mU (List.mem_append_left _ (List.mem_of_getElem? (i := 65) (by decide +kernel))) rfl
theorem mS_X5_arrive : Cond.selects RX5 yX5_arrive yX5_arrive ∈ wU := mU (List.mem_append_left _ (List.mem_of_getElem? (i := 66) (by decide +kernel))) rfl
theorem mS_X5_expire : Cond.selects RX5 yX5_expire yX5_expire ∈ wU := mU (List.mem_append_left _ (List.mem_of_getElem? (i := 67) (by decide +kernel))) rfl
theorem mS_X5_removes : Cond.selects RX5 yX5_removes yX5_removes ∈ wU := mU (List.mem_append_left _ (List.mem_of_getElem? (i := 68) (by decide +kernel))) rfl
theorem mS_X5_loses : Cond.selects RX5 yX5_loses yX5_loses ∈ wU := mU (List.mem_append_left _ (List.mem_of_getElem? (i := 69) (by decide +kernel))) rfl
theorem mS_X5_late : Cond.selects RX5 yX5_late yX5_late ∈ wU := mU (List.mem_append_left _ (List.mem_of_getElem? (i := 70) (by decide +kernel))) rfl
theorem mS_X5_owes : Cond.selects RX5 yX5_owes yX5_owes ∈ wU := mU (List.mem_append_left _ (List.mem_of_getElem? (i := 71) (by decide +kernel))) rfl
theorem mS_X5_lends : Cond.selects RX5 yX5_lends yX5_lends ∈ wU := mU (List.mem_append_left _ (List.mem_of_getElem? (i := 72) (by decide +kernel))) rfl
theorem mS_X5_isPatron : Cond.selects RX5 yX5_isPatron yX5_isPatron ∈ wU := mU (List.mem_append_left _ (List.mem_of_getElem? (i := 73) (by decide +kernel))) rfl
theorem mS_X5_reasonToLend : Cond.selects RX5 yX5_reasonToLend yX5_reasonToLend ∈ wU := mU (List.mem_append_left _ (List.mem_of_getElem? (i := 74) (by decide +kernel))) rfl
theorem mS_X5_isBarred : Cond.selects RX5 yX5_isBarred yX5_isBarred ∈ wU := mU (List.mem_append_left _ (List.mem_of_getElem? (i := 75) (by decide +kernel))) rfl
theorem mS_X5_loans : Cond.selects RX5 yX5_loans yX5_loans ∈ wU := mU (List.mem_append_left _ (List.mem_of_getElem? (i := 76) (by decide +kernel))) rfl
theorem mS_X5_bringsBack : Cond.selects RX5 yX5_bringsBack yX5_bringsBack ∈ wU := mU (List.mem_append_left _ (List.mem_of_getElem? (i := 77) (by decide +kernel))) rfl
theorem mS_X5_renews : Cond.selects RX5 yX5_renews yX5_renews ∈ wU := mU (List.mem_append_left _ (List.mem_of_getElem? (i := 78) (by decide +kernel))) rfl
theorem mS_X5_reasonToRenew : Cond.selects RX5 yX5_reasonToRenew yX5_reasonToRenew ∈ wU := mU (List.mem_append_left _ (List.mem_of_getElem? (i := 79) (by decide +kernel))) rfl
theorem mS_X5_waitingFor : Cond.selects RX5 yX5_waitingFor yX5_waitingFor ∈ wU := mU (List.mem_append_left _ (List.mem_of_getElem? (i := 80) (by decide +kernel))) rfl
theorem mS_X5_reasonToClaim : Cond.selects RX5 yX5_reasonToClaim yX5_reasonToClaim ∈ wU := mU (List.mem_append_left _ (List.mem_of_getElem? (i := 81) (by decide +kernel))) rfl
theorem mS_X5_reasonToLose : Cond.selects RX5 yX5_reasonToLose yX5_reasonToLose ∈ wU := mU (List.mem_append_left _ (List.mem_of_getElem? (i := 82) (by decide +kernel))) rfl
theorem mS_X5_laysHold : Cond.selects RX5 yX5_laysHold yX5_laysHold ∈ wU := mU (List.mem_append_left _ (List.mem_of_getElem? (i := 83) (by decide +kernel))) rfl
theorem mS_X5_reasonToHold : Cond.selects RX5 yX5_reasonToHold yX5_reasonToHold ∈ wU := mU (List.mem_append_left _ (List.mem_of_getElem? (i := 84) (by decide +kernel))) rfl
theorem mS_X5_holdBy : Cond.selects RX5 yX5_holdBy yX5_holdBy ∈ wU := mU (List.mem_append_left _ (List.mem_of_getElem? (i := 85) (by decide +kernel))) rfl
theorem mS_X5_nearest : Cond.selects RX5 yX5_nearest yX5_nearest ∈ wU := mU (List.mem_append_left _ (List.mem_of_getElem? (i := 86) (by decide +kernel))) rfl
theorem mS_X5_recalls : Cond.selects RX5 yX5_recalls yX5_recalls ∈ wU := mU (List.mem_append_left _ (List.mem_of_getElem? (i := 87) (by decide +kernel))) rfl
theorem mS_X5_cancels : Cond.selects RX5 yX5_cancels yX5_cancels ∈ wU := mU (List.mem_append_left _ (List.mem_of_getElem? (i := 88) (by decide +kernel))) rfl
theorem mS_X5_holds : Cond.selects RX5 yX5_holds yX5_holds ∈ wU := mU (List.mem_append_left _ (List.mem_of_getElem? (i := 89) (by decide +kernel))) rfl
theorem mS_X5_freeDay : Cond.selects RX5 yX5_freeDay yX5_freeDay ∈ wU := mU (List.mem_append_left _ (List.mem_of_getElem? (i := 90) (by decide +kernel))) rfl
theorem mS_X5_holdsOf : Cond.selects RX5 yX5_holdsOf yX5_holdsOf ∈ wU := mU (List.mem_append_left _ (List.mem_of_getElem? (i := 91) (by decide +kernel))) rfl
theorem mS_X5_overdue : Cond.selects RX5 yX5_overdue yX5_overdue ∈ wU := mU (List.mem_append_left _ (List.mem_of_getElem? (i := 92) (by decide +kernel))) rfl
theorem mS_X5_byDate : Cond.selects RX5 yX5_byDate yX5_byDate ∈ wU := mU (List.mem_append_left _ (List.mem_of_getElem? (i := 93) (by decide +kernel))) rfl
theorem mS_X5_lessens : Cond.selects RX5 yX5_lessens yX5_lessens ∈ wU := mU (List.mem_append_left _ (List.mem_of_getElem? (i := 94) (by decide +kernel))) rfl
theorem mS_X5_command : Cond.selects RX5 yX5_command yX5_command ∈ wU := mU (List.mem_append_left _ (List.mem_of_getElem? (i := 95) (by decide +kernel))) rfl
theorem mS_X5_sign : Cond.selects RX5 yX5_sign yX5_sign ∈ wU := mU (List.mem_append_left _ (List.mem_of_getElem? (i := 96) (by decide +kernel))) rfl
theorem mS_X5_number : Cond.selects RX5 yX5_number yX5_number ∈ wU := mU (List.mem_append_left _ (List.mem_of_getElem? (i := 97) (by decide +kernel))) rfl
theorem mS_X5_does : Cond.selects RX5 yX5_does yX5_does ∈ wU := mU (List.mem_append_left _ (List.mem_of_getElem? (i := 98) (by decide +kernel))) rfl
