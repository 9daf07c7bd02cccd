section
-- ===== PART A: goes FIRST, ahead of the names: the tables' words, and 'selects' of the private methods out of them =====
/-- a private method of a class that the tables say can be made, by its rows of tables_1 -/
def lw_okq (q : MethodName × Nat) : Prop := (q.1.cls ≠ "java/lang/invoke/MethodHandle" ∧ q.1.cls ≠ "java/lang/invoke/VarHandle") ∧ Cond.instantiable q.1.cls q.2 ∈ tables_1 ∧ Cond.privateMethod q.1 ∈ tables_1 ∧ Cond.instanceMethod q.1 ∈ tables_1
theorem lw_p0 : lw_okq (⟨"LibraryCirculation", "becomeFree", "(II)V"⟩, 6) := ⟨⟨by decide +kernel, by decide +kernel⟩, List.mem_of_getElem? (i := 10) (by decide +kernel), List.mem_of_getElem? (i := 154) (by decide +kernel), List.mem_of_getElem? (i := 155) (by decide +kernel)⟩
theorem lw_p1 : lw_okq (⟨"LibraryCirculation", "titleOf", "(I)I"⟩, 6) := ⟨⟨by decide +kernel, by decide +kernel⟩, List.mem_of_getElem? (i := 10) (by decide +kernel), List.mem_of_getElem? (i := 158) (by decide +kernel), List.mem_of_getElem? (i := 159) (by decide +kernel)⟩
theorem lw_p2 : lw_okq (⟨"LibraryCirculation", "firstWaiting", "(I)I"⟩, 6) := ⟨⟨by decide +kernel, by decide +kernel⟩, List.mem_of_getElem? (i := 10) (by decide +kernel), List.mem_of_getElem? (i := 166) (by decide +kernel), List.mem_of_getElem? (i := 167) (by decide +kernel)⟩
theorem lw_p3 : lw_okq (⟨"LibraryCirculation", "isWaiting", "(II)Z"⟩, 6) := ⟨⟨by decide +kernel, by decide +kernel⟩, List.mem_of_getElem? (i := 10) (by decide +kernel), List.mem_of_getElem? (i := 174) (by decide +kernel), List.mem_of_getElem? (i := 175) (by decide +kernel)⟩
theorem lw_p4 : lw_okq (⟨"LibraryCirculation", "putLoan", "(IIII)V"⟩, 6) := ⟨⟨by decide +kernel, by decide +kernel⟩, List.mem_of_getElem? (i := 10) (by decide +kernel), List.mem_of_getElem? (i := 178) (by decide +kernel), List.mem_of_getElem? (i := 179) (by decide +kernel)⟩
theorem lw_p5 : lw_okq (⟨"LibraryCirculation", "putCopy", "(IIII)V"⟩, 6) := ⟨⟨by decide +kernel, by decide +kernel⟩, List.mem_of_getElem? (i := 10) (by decide +kernel), List.mem_of_getElem? (i := 188) (by decide +kernel), List.mem_of_getElem? (i := 189) (by decide +kernel)⟩
theorem lw_p6 : lw_okq (⟨"LibraryCirculation", "valueOf", "(I)I"⟩, 6) := ⟨⟨by decide +kernel, by decide +kernel⟩, List.mem_of_getElem? (i := 10) (by decide +kernel), List.mem_of_getElem? (i := 192) (by decide +kernel), List.mem_of_getElem? (i := 193) (by decide +kernel)⟩
theorem lw_p7 : lw_okq (⟨"LibraryCirculation", "settle", "(I)I"⟩, 6) := ⟨⟨by decide +kernel, by decide +kernel⟩, List.mem_of_getElem? (i := 10) (by decide +kernel), List.mem_of_getElem? (i := 196) (by decide +kernel), List.mem_of_getElem? (i := 197) (by decide +kernel)⟩
theorem lw_p8 : lw_okq (⟨"LibraryCirculation", "commit", "()V"⟩, 6) := ⟨⟨by decide +kernel, by decide +kernel⟩, List.mem_of_getElem? (i := 10) (by decide +kernel), List.mem_of_getElem? (i := 200) (by decide +kernel), List.mem_of_getElem? (i := 201) (by decide +kernel)⟩
theorem lw_p9 : lw_okq (⟨"LibraryCirculation$History", "at", "(I)LLibraryCirculation$State;"⟩, 3) := ⟨⟨by decide +kernel, by decide +kernel⟩, List.mem_of_getElem? (i := 83) (by decide +kernel), List.mem_of_getElem? (i := 208) (by decide +kernel), List.mem_of_getElem? (i := 209) (by decide +kernel)⟩
theorem lw_p10 : lw_okq (⟨"LibraryCirculation", "isCopy", "(I)Z"⟩, 6) := ⟨⟨by decide +kernel, by decide +kernel⟩, List.mem_of_getElem? (i := 10) (by decide +kernel), List.mem_of_getElem? (i := 255) (by decide +kernel), List.mem_of_getElem? (i := 256) (by decide +kernel)⟩
theorem lw_p11 : lw_okq (⟨"LibraryCirculation", "stateOf", "(I)I"⟩, 6) := ⟨⟨by decide +kernel, by decide +kernel⟩, List.mem_of_getElem? (i := 10) (by decide +kernel), List.mem_of_getElem? (i := 263) (by decide +kernel), List.mem_of_getElem? (i := 264) (by decide +kernel)⟩
theorem lw_p12 : lw_okq (⟨"LibraryCirculation", "letPass", "(I)I"⟩, 6) := ⟨⟨by decide +kernel, by decide +kernel⟩, List.mem_of_getElem? (i := 10) (by decide +kernel), List.mem_of_getElem? (i := 279) (by decide +kernel), List.mem_of_getElem? (i := 280) (by decide +kernel)⟩
theorem lw_p13 : lw_okq (⟨"LibraryCirculation", "arriveOnThisDay", "()V"⟩, 6) := ⟨⟨by decide +kernel, by decide +kernel⟩, List.mem_of_getElem? (i := 10) (by decide +kernel), List.mem_of_getElem? (i := 283) (by decide +kernel), List.mem_of_getElem? (i := 284) (by decide +kernel)⟩
theorem lw_p14 : lw_okq (⟨"LibraryCirculation", "expireBeforeThisDay", "()V"⟩, 6) := ⟨⟨by decide +kernel, by decide +kernel⟩, List.mem_of_getElem? (i := 10) (by decide +kernel), List.mem_of_getElem? (i := 287) (by decide +kernel), List.mem_of_getElem? (i := 288) (by decide +kernel)⟩
theorem lw_p15 : lw_okq (⟨"LibraryCirculation", "findHold", "(II)I"⟩, 6) := ⟨⟨by decide +kernel, by decide +kernel⟩, List.mem_of_getElem? (i := 10) (by decide +kernel), List.mem_of_getElem? (i := 291) (by decide +kernel), List.mem_of_getElem? (i := 292) (by decide +kernel)⟩
def lw_privs_1 : List (MethodName × Nat) := [(⟨"LibraryCirculation", "becomeFree", "(II)V"⟩, 6), (⟨"LibraryCirculation", "titleOf", "(I)I"⟩, 6), (⟨"LibraryCirculation", "firstWaiting", "(I)I"⟩, 6), (⟨"LibraryCirculation", "isWaiting", "(II)Z"⟩, 6), (⟨"LibraryCirculation", "putLoan", "(IIII)V"⟩, 6), (⟨"LibraryCirculation", "putCopy", "(IIII)V"⟩, 6), (⟨"LibraryCirculation", "valueOf", "(I)I"⟩, 6), (⟨"LibraryCirculation", "settle", "(I)I"⟩, 6), (⟨"LibraryCirculation", "commit", "()V"⟩, 6), (⟨"LibraryCirculation$History", "at", "(I)LLibraryCirculation$State;"⟩, 3), (⟨"LibraryCirculation", "isCopy", "(I)Z"⟩, 6), (⟨"LibraryCirculation", "stateOf", "(I)I"⟩, 6), (⟨"LibraryCirculation", "letPass", "(I)I"⟩, 6), (⟨"LibraryCirculation", "arriveOnThisDay", "()V"⟩, 6), (⟨"LibraryCirculation", "expireBeforeThisDay", "()V"⟩, 6), (⟨"LibraryCirculation", "findHold", "(II)I"⟩, 6)]
theorem lw_r1 : ∀ q ∈ lw_privs_1, lw_okq q := List.forall_mem_cons.mpr ⟨lw_p0, List.forall_mem_cons.mpr ⟨lw_p1, List.forall_mem_cons.mpr ⟨lw_p2, List.forall_mem_cons.mpr ⟨lw_p3, List.forall_mem_cons.mpr ⟨lw_p4, List.forall_mem_cons.mpr ⟨lw_p5, List.forall_mem_cons.mpr ⟨lw_p6, List.forall_mem_cons.mpr ⟨lw_p7, List.forall_mem_cons.mpr ⟨lw_p8, List.forall_mem_cons.mpr ⟨lw_p9, List.forall_mem_cons.mpr ⟨lw_p10, List.forall_mem_cons.mpr ⟨lw_p11, List.forall_mem_cons.mpr ⟨lw_p12, List.forall_mem_cons.mpr ⟨lw_p13, List.forall_mem_cons.mpr ⟨lw_p14, List.forall_mem_cons.mpr ⟨lw_p15, fun _ h => absurd h List.not_mem_nil⟩⟩⟩⟩⟩⟩⟩⟩⟩⟩⟩⟩⟩⟩⟩⟩
theorem lw_p16 : lw_okq (⟨"LibraryCirculation", "removeHold", "(I)V"⟩, 6) := ⟨⟨by decide +kernel, by decide +kernel⟩, List.mem_of_getElem? (i := 10) (by decide +kernel), List.mem_of_getElem? (i := 295) (by decide +kernel), List.mem_of_getElem? (i := 296) (by decide +kernel)⟩
theorem lw_p17 : lw_okq (⟨"LibraryCirculation", "endClaims", "()V"⟩, 6) := ⟨⟨by decide +kernel, by decide +kernel⟩, List.mem_of_getElem? (i := 10) (by decide +kernel), List.mem_of_getElem? (i := 305) (by decide +kernel), List.mem_of_getElem? (i := 306) (by decide +kernel)⟩
theorem lw_p18 : lw_okq (⟨"LibraryCirculation", "becomeLost", "(I)V"⟩, 6) := ⟨⟨by decide +kernel, by decide +kernel⟩, List.mem_of_getElem? (i := 10) (by decide +kernel), List.mem_of_getElem? (i := 309) (by decide +kernel), List.mem_of_getElem? (i := 310) (by decide +kernel)⟩
theorem lw_p19 : lw_okq (⟨"LibraryCirculation", "fineOf", "(I)I"⟩, 6) := ⟨⟨by decide +kernel, by decide +kernel⟩, List.mem_of_getElem? (i := 10) (by decide +kernel), List.mem_of_getElem? (i := 313) (by decide +kernel), List.mem_of_getElem? (i := 314) (by decide +kernel)⟩
theorem lw_p20 : lw_okq (⟨"LibraryCirculation", "enter", "(IIII)V"⟩, 6) := ⟨⟨by decide +kernel, by decide +kernel⟩, List.mem_of_getElem? (i := 10) (by decide +kernel), List.mem_of_getElem? (i := 320) (by decide +kernel), List.mem_of_getElem? (i := 321) (by decide +kernel)⟩
theorem lw_p21 : lw_okq (⟨"LibraryCirculation", "lendOut", "(II)I"⟩, 6) := ⟨⟨by decide +kernel, by decide +kernel⟩, List.mem_of_getElem? (i := 10) (by decide +kernel), List.mem_of_getElem? (i := 328) (by decide +kernel), List.mem_of_getElem? (i := 329) (by decide +kernel)⟩
theorem lw_p22 : lw_okq (⟨"LibraryCirculation", "reasonAgainstLending", "(II)I"⟩, 6) := ⟨⟨by decide +kernel, by decide +kernel⟩, List.mem_of_getElem? (i := 10) (by decide +kernel), List.mem_of_getElem? (i := 332) (by decide +kernel), List.mem_of_getElem? (i := 333) (by decide +kernel)⟩
theorem lw_p23 : lw_okq (⟨"LibraryCirculation", "isPatron", "(I)Z"⟩, 6) := ⟨⟨by decide +kernel, by decide +kernel⟩, List.mem_of_getElem? (i := 10) (by decide +kernel), List.mem_of_getElem? (i := 336) (by decide +kernel), List.mem_of_getElem? (i := 337) (by decide +kernel)⟩
theorem lw_p24 : lw_okq (⟨"LibraryCirculation", "owesTheLimit", "(I)Z"⟩, 6) := ⟨⟨by decide +kernel, by decide +kernel⟩, List.mem_of_getElem? (i := 10) (by decide +kernel), List.mem_of_getElem? (i := 340) (by decide +kernel), List.mem_of_getElem? (i := 341) (by decide +kernel)⟩
theorem lw_p25 : lw_okq (⟨"LibraryCirculation", "loanCount", "(I)I"⟩, 6) := ⟨⟨by decide +kernel, by decide +kernel⟩, List.mem_of_getElem? (i := 10) (by decide +kernel), List.mem_of_getElem? (i := 344) (by decide +kernel), List.mem_of_getElem? (i := 345) (by decide +kernel)⟩
theorem lw_p26 : lw_okq (⟨"LibraryCirculation", "isAt", "(III)Z"⟩, 6) := ⟨⟨by decide +kernel, by decide +kernel⟩, List.mem_of_getElem? (i := 10) (by decide +kernel), List.mem_of_getElem? (i := 348) (by decide +kernel), List.mem_of_getElem? (i := 349) (by decide +kernel)⟩
theorem lw_p27 : lw_okq (⟨"LibraryCirculation", "canBeTakenBy", "(II)Z"⟩, 6) := ⟨⟨by decide +kernel, by decide +kernel⟩, List.mem_of_getElem? (i := 10) (by decide +kernel), List.mem_of_getElem? (i := 352) (by decide +kernel), List.mem_of_getElem? (i := 353) (by decide +kernel)⟩
theorem lw_p28 : lw_okq (⟨"LibraryCirculation", "takeBack", "(II)I"⟩, 6) := ⟨⟨by decide +kernel, by decide +kernel⟩, List.mem_of_getElem? (i := 10) (by decide +kernel), List.mem_of_getElem? (i := 363) (by decide +kernel), List.mem_of_getElem? (i := 364) (by decide +kernel)⟩
theorem lw_p29 : lw_okq (⟨"LibraryCirculation", "isWithPatron", "(I)Z"⟩, 6) := ⟨⟨by decide +kernel, by decide +kernel⟩, List.mem_of_getElem? (i := 10) (by decide +kernel), List.mem_of_getElem? (i := 367) (by decide +kernel), List.mem_of_getElem? (i := 368) (by decide +kernel)⟩
theorem lw_p30 : lw_okq (⟨"LibraryCirculation", "renewLoan", "(I)I"⟩, 6) := ⟨⟨by decide +kernel, by decide +kernel⟩, List.mem_of_getElem? (i := 10) (by decide +kernel), List.mem_of_getElem? (i := 375) (by decide +kernel), List.mem_of_getElem? (i := 376) (by decide +kernel)⟩
theorem lw_p31 : lw_okq (⟨"LibraryCirculation", "reasonAgainstRenewing", "(I)I"⟩, 6) := ⟨⟨by decide +kernel, by decide +kernel⟩, List.mem_of_getElem? (i := 10) (by decide +kernel), List.mem_of_getElem? (i := 379) (by decide +kernel), List.mem_of_getElem? (i := 380) (by decide +kernel)⟩
def lw_privs_2 : List (MethodName × Nat) := [(⟨"LibraryCirculation", "removeHold", "(I)V"⟩, 6), (⟨"LibraryCirculation", "endClaims", "()V"⟩, 6), (⟨"LibraryCirculation", "becomeLost", "(I)V"⟩, 6), (⟨"LibraryCirculation", "fineOf", "(I)I"⟩, 6), (⟨"LibraryCirculation", "enter", "(IIII)V"⟩, 6), (⟨"LibraryCirculation", "lendOut", "(II)I"⟩, 6), (⟨"LibraryCirculation", "reasonAgainstLending", "(II)I"⟩, 6), (⟨"LibraryCirculation", "isPatron", "(I)Z"⟩, 6), (⟨"LibraryCirculation", "owesTheLimit", "(I)Z"⟩, 6), (⟨"LibraryCirculation", "loanCount", "(I)I"⟩, 6), (⟨"LibraryCirculation", "isAt", "(III)Z"⟩, 6), (⟨"LibraryCirculation", "canBeTakenBy", "(II)Z"⟩, 6), (⟨"LibraryCirculation", "takeBack", "(II)I"⟩, 6), (⟨"LibraryCirculation", "isWithPatron", "(I)Z"⟩, 6), (⟨"LibraryCirculation", "renewLoan", "(I)I"⟩, 6), (⟨"LibraryCirculation", "reasonAgainstRenewing", "(I)I"⟩, 6)]
theorem lw_r2 : ∀ q ∈ lw_privs_2, lw_okq q := List.forall_mem_cons.mpr ⟨lw_p16, List.forall_mem_cons.mpr ⟨lw_p17, List.forall_mem_cons.mpr ⟨lw_p18, List.forall_mem_cons.mpr ⟨lw_p19, List.forall_mem_cons.mpr ⟨lw_p20, List.forall_mem_cons.mpr ⟨lw_p21, List.forall_mem_cons.mpr ⟨lw_p22, List.forall_mem_cons.mpr ⟨lw_p23, List.forall_mem_cons.mpr ⟨lw_p24, List.forall_mem_cons.mpr ⟨lw_p25, List.forall_mem_cons.mpr ⟨lw_p26, List.forall_mem_cons.mpr ⟨lw_p27, List.forall_mem_cons.mpr ⟨lw_p28, List.forall_mem_cons.mpr ⟨lw_p29, List.forall_mem_cons.mpr ⟨lw_p30, List.forall_mem_cons.mpr ⟨lw_p31, fun _ h => absurd h List.not_mem_nil⟩⟩⟩⟩⟩⟩⟩⟩⟩⟩⟩⟩⟩⟩⟩⟩
theorem lw_p32 : lw_okq (⟨"LibraryCirculation", "reasonAgainstClaiming", "(I)I"⟩, 6) := ⟨⟨by decide +kernel, by decide +kernel⟩, List.mem_of_getElem? (i := 10) (by decide +kernel), List.mem_of_getElem? (i := 387) (by decide +kernel), List.mem_of_getElem? (i := 388) (by decide +kernel)⟩
theorem lw_p33 : lw_okq (⟨"LibraryCirculation", "reasonAgainstLosing", "(I)I"⟩, 6) := ⟨⟨by decide +kernel, by decide +kernel⟩, List.mem_of_getElem? (i := 10) (by decide +kernel), List.mem_of_getElem? (i := 395) (by decide +kernel), List.mem_of_getElem? (i := 396) (by decide +kernel)⟩
theorem lw_p34 : lw_okq (⟨"LibraryCirculation", "makeHold", "(III)I"⟩, 6) := ⟨⟨by decide +kernel, by decide +kernel⟩, List.mem_of_getElem? (i := 10) (by decide +kernel), List.mem_of_getElem? (i := 403) (by decide +kernel), List.mem_of_getElem? (i := 404) (by decide +kernel)⟩
theorem lw_p35 : lw_okq (⟨"LibraryCirculation", "reasonAgainstHolding", "(II)I"⟩, 6) := ⟨⟨by decide +kernel, by decide +kernel⟩, List.mem_of_getElem? (i := 10) (by decide +kernel), List.mem_of_getElem? (i := 407) (by decide +kernel), List.mem_of_getElem? (i := 408) (by decide +kernel)⟩
theorem lw_p36 : lw_okq (⟨"LibraryCirculation", "holdsOf", "(I)I"⟩, 6) := ⟨⟨by decide +kernel, by decide +kernel⟩, List.mem_of_getElem? (i := 10) (by decide +kernel), List.mem_of_getElem? (i := 411) (by decide +kernel), List.mem_of_getElem? (i := 412) (by decide +kernel)⟩
theorem lw_p37 : lw_okq (⟨"LibraryCirculation", "hasLoanOf", "(II)Z"⟩, 6) := ⟨⟨by decide +kernel, by decide +kernel⟩, List.mem_of_getElem? (i := 10) (by decide +kernel), List.mem_of_getElem? (i := 415) (by decide +kernel), List.mem_of_getElem? (i := 416) (by decide +kernel)⟩
theorem lw_p38 : lw_okq (⟨"LibraryCirculation", "nearestOnShelf", "(II)I"⟩, 6) := ⟨⟨by decide +kernel, by decide +kernel⟩, List.mem_of_getElem? (i := 10) (by decide +kernel), List.mem_of_getElem? (i := 419) (by decide +kernel), List.mem_of_getElem? (i := 420) (by decide +kernel)⟩
theorem lw_p39 : lw_okq (⟨"LibraryCirculation", "recallFor", "(I)V"⟩, 6) := ⟨⟨by decide +kernel, by decide +kernel⟩, List.mem_of_getElem? (i := 10) (by decide +kernel), List.mem_of_getElem? (i := 423) (by decide +kernel), List.mem_of_getElem? (i := 424) (by decide +kernel)⟩
theorem lw_p40 : lw_okq (⟨"LibraryCirculation", "earliestNotRecalled", "(I)I"⟩, 6) := ⟨⟨by decide +kernel, by decide +kernel⟩, List.mem_of_getElem? (i := 10) (by decide +kernel), List.mem_of_getElem? (i := 427) (by decide +kernel), List.mem_of_getElem? (i := 428) (by decide +kernel)⟩
theorem lw_p41 : lw_okq (⟨"LibraryCirculation", "waitingBefore", "(II)I"⟩, 6) := ⟨⟨by decide +kernel, by decide +kernel⟩, List.mem_of_getElem? (i := 10) (by decide +kernel), List.mem_of_getElem? (i := 433) (by decide +kernel), List.mem_of_getElem? (i := 434) (by decide +kernel)⟩
theorem lw_p42 : lw_okq (⟨"LibraryCirculation", "dropHold", "(II)I"⟩, 6) := ⟨⟨by decide +kernel, by decide +kernel⟩, List.mem_of_getElem? (i := 10) (by decide +kernel), List.mem_of_getElem? (i := 441) (by decide +kernel), List.mem_of_getElem? (i := 442) (by decide +kernel)⟩
theorem lw_p43 : lw_okq (⟨"LibraryCirculation", "holdsBefore", "(II)I"⟩, 6) := ⟨⟨by decide +kernel, by decide +kernel⟩, List.mem_of_getElem? (i := 10) (by decide +kernel), List.mem_of_getElem? (i := 445) (by decide +kernel), List.mem_of_getElem? (i := 446) (by decide +kernel)⟩
theorem lw_p44 : lw_okq (⟨"LibraryCirculation", "expectedDay", "(II)I"⟩, 6) := ⟨⟨by decide +kernel, by decide +kernel⟩, List.mem_of_getElem? (i := 10) (by decide +kernel), List.mem_of_getElem? (i := 473) (by decide +kernel), List.mem_of_getElem? (i := 474) (by decide +kernel)⟩
theorem lw_p45 : lw_okq (⟨"LibraryCirculation", "expectedBefore", "(III)I"⟩, 6) := ⟨⟨by decide +kernel, by decide +kernel⟩, List.mem_of_getElem? (i := 10) (by decide +kernel), List.mem_of_getElem? (i := 477) (by decide +kernel), List.mem_of_getElem? (i := 478) (by decide +kernel)⟩
theorem lw_p46 : lw_okq (⟨"LibraryCirculation", "overdueCount", "(I)I"⟩, 6) := ⟨⟨by decide +kernel, by decide +kernel⟩, List.mem_of_getElem? (i := 10) (by decide +kernel), List.mem_of_getElem? (i := 500) (by decide +kernel), List.mem_of_getElem? (i := 501) (by decide +kernel)⟩
theorem lw_p47 : lw_okq (⟨"LibraryCirculation", "nextByDay", "(III)I"⟩, 6) := ⟨⟨by decide +kernel, by decide +kernel⟩, List.mem_of_getElem? (i := 10) (by decide +kernel), List.mem_of_getElem? (i := 508) (by decide +kernel), List.mem_of_getElem? (i := 509) (by decide +kernel)⟩
def lw_privs_3 : List (MethodName × Nat) := [(⟨"LibraryCirculation", "reasonAgainstClaiming", "(I)I"⟩, 6), (⟨"LibraryCirculation", "reasonAgainstLosing", "(I)I"⟩, 6), (⟨"LibraryCirculation", "makeHold", "(III)I"⟩, 6), (⟨"LibraryCirculation", "reasonAgainstHolding", "(II)I"⟩, 6), (⟨"LibraryCirculation", "holdsOf", "(I)I"⟩, 6), (⟨"LibraryCirculation", "hasLoanOf", "(II)Z"⟩, 6), (⟨"LibraryCirculation", "nearestOnShelf", "(II)I"⟩, 6), (⟨"LibraryCirculation", "recallFor", "(I)V"⟩, 6), (⟨"LibraryCirculation", "earliestNotRecalled", "(I)I"⟩, 6), (⟨"LibraryCirculation", "waitingBefore", "(II)I"⟩, 6), (⟨"LibraryCirculation", "dropHold", "(II)I"⟩, 6), (⟨"LibraryCirculation", "holdsBefore", "(II)I"⟩, 6), (⟨"LibraryCirculation", "expectedDay", "(II)I"⟩, 6), (⟨"LibraryCirculation", "expectedBefore", "(III)I"⟩, 6), (⟨"LibraryCirculation", "overdueCount", "(I)I"⟩, 6), (⟨"LibraryCirculation", "nextByDay", "(III)I"⟩, 6)]
theorem lw_r3 : ∀ q ∈ lw_privs_3, lw_okq q := List.forall_mem_cons.mpr ⟨lw_p32, List.forall_mem_cons.mpr ⟨lw_p33, List.forall_mem_cons.mpr ⟨lw_p34, List.forall_mem_cons.mpr ⟨lw_p35, List.forall_mem_cons.mpr ⟨lw_p36, List.forall_mem_cons.mpr ⟨lw_p37, List.forall_mem_cons.mpr ⟨lw_p38, List.forall_mem_cons.mpr ⟨lw_p39, List.forall_mem_cons.mpr ⟨lw_p40, List.forall_mem_cons.mpr ⟨lw_p41, List.forall_mem_cons.mpr ⟨lw_p42, List.forall_mem_cons.mpr ⟨lw_p43, List.forall_mem_cons.mpr ⟨lw_p44, List.forall_mem_cons.mpr ⟨lw_p45, List.forall_mem_cons.mpr ⟨lw_p46, List.forall_mem_cons.mpr ⟨lw_p47, fun _ h => absurd h List.not_mem_nil⟩⟩⟩⟩⟩⟩⟩⟩⟩⟩⟩⟩⟩⟩⟩⟩
theorem lw_p48 : lw_okq (⟨"LibraryCirculation", "countBefore", "(III)I"⟩, 6) := ⟨⟨by decide +kernel, by decide +kernel⟩, List.mem_of_getElem? (i := 10) (by decide +kernel), List.mem_of_getElem? (i := 512) (by decide +kernel), List.mem_of_getElem? (i := 513) (by decide +kernel)⟩
theorem lw_p49 : lw_okq (⟨"LibraryCirculation", "credit", "(III)I"⟩, 6) := ⟨⟨by decide +kernel, by decide +kernel⟩, List.mem_of_getElem? (i := 10) (by decide +kernel), List.mem_of_getElem? (i := 524) (by decide +kernel), List.mem_of_getElem? (i := 525) (by decide +kernel)⟩
theorem lw_p50 : lw_okq (⟨"LibraryCirculation$CommandText", "readCommand", "()Z"⟩, 4) := ⟨⟨by decide +kernel, by decide +kernel⟩, List.mem_of_getElem? (i := 102) (by decide +kernel), List.mem_of_getElem? (i := 573) (by decide +kernel), List.mem_of_getElem? (i := 574) (by decide +kernel)⟩
theorem lw_p51 : lw_okq (⟨"LibraryCirculation$CommandText", "letterAt", "(I)I"⟩, 4) := ⟨⟨by decide +kernel, by decide +kernel⟩, List.mem_of_getElem? (i := 102) (by decide +kernel), List.mem_of_getElem? (i := 577) (by decide +kernel), List.mem_of_getElem? (i := 578) (by decide +kernel)⟩
theorem lw_p52 : lw_okq (⟨"LibraryCirculation$CommandText", "readNumber", "(II)Z"⟩, 4) := ⟨⟨by decide +kernel, by decide +kernel⟩, List.mem_of_getElem? (i := 102) (by decide +kernel), List.mem_of_getElem? (i := 586) (by decide +kernel), List.mem_of_getElem? (i := 587) (by decide +kernel)⟩
theorem lw_p53 : lw_okq (⟨"LibraryCirculation", "runCommand", "(I)I"⟩, 6) := ⟨⟨by decide +kernel, by decide +kernel⟩, List.mem_of_getElem? (i := 10) (by decide +kernel), List.mem_of_getElem? (i := 606) (by decide +kernel), List.mem_of_getElem? (i := 607) (by decide +kernel)⟩
theorem lw_p54 : lw_okq (⟨"LibraryCirculationModel", "keeps", "()V"⟩, 11) := ⟨⟨by decide +kernel, by decide +kernel⟩, List.mem_of_getElem? (i := 643) (by decide +kernel), List.mem_of_getElem? (i := 696) (by decide +kernel), List.mem_of_getElem? (i := 697) (by decide +kernel)⟩
theorem lw_p55 : lw_okq (⟨"LibraryCirculationModel", "puts", "(III)V"⟩, 11) := ⟨⟨by decide +kernel, by decide +kernel⟩, List.mem_of_getElem? (i := 643) (by decide +kernel), List.mem_of_getElem? (i := 703) (by decide +kernel), List.mem_of_getElem? (i := 704) (by decide +kernel)⟩
theorem lw_p56 : lw_okq (⟨"LibraryCirculationModel", "frees", "(II)V"⟩, 11) := ⟨⟨by decide +kernel, by decide +kernel⟩, List.mem_of_getElem? (i := 643) (by decide +kernel), List.mem_of_getElem? (i := 707) (by decide +kernel), List.mem_of_getElem? (i := 708) (by decide +kernel)⟩
theorem lw_p57 : lw_okq (⟨"LibraryCirculationModel", "of", "(II)I"⟩, 11) := ⟨⟨by decide +kernel, by decide +kernel⟩, List.mem_of_getElem? (i := 643) (by decide +kernel), List.mem_of_getElem? (i := 711) (by decide +kernel), List.mem_of_getElem? (i := 712) (by decide +kernel)⟩
theorem lw_p58 : lw_okq (⟨"LibraryCirculationModel", "firstWaiting", "(I)I"⟩, 11) := ⟨⟨by decide +kernel, by decide +kernel⟩, List.mem_of_getElem? (i := 643) (by decide +kernel), List.mem_of_getElem? (i := 715) (by decide +kernel), List.mem_of_getElem? (i := 716) (by decide +kernel)⟩
theorem lw_p59 : lw_okq (⟨"LibraryCirculationModel", "hold", "(II)I"⟩, 11) := ⟨⟨by decide +kernel, by decide +kernel⟩, List.mem_of_getElem? (i := 643) (by decide +kernel), List.mem_of_getElem? (i := 719) (by decide +kernel), List.mem_of_getElem? (i := 720) (by decide +kernel)⟩
theorem lw_p60 : lw_okq (⟨"LibraryCirculationModel", "assigns", "(III)V"⟩, 11) := ⟨⟨by decide +kernel, by decide +kernel⟩, List.mem_of_getElem? (i := 643) (by decide +kernel), List.mem_of_getElem? (i := 723) (by decide +kernel), List.mem_of_getElem? (i := 724) (by decide +kernel)⟩
theorem lw_p61 : lw_okq (⟨"LibraryCirculationModel", "turns", "(IIII)V"⟩, 11) := ⟨⟨by decide +kernel, by decide +kernel⟩, List.mem_of_getElem? (i := 643) (by decide +kernel), List.mem_of_getElem? (i := 727) (by decide +kernel), List.mem_of_getElem? (i := 728) (by decide +kernel)⟩
theorem lw_p62 : lw_okq (⟨"LibraryCirculationModel", "made", "(I)I"⟩, 11) := ⟨⟨by decide +kernel, by decide +kernel⟩, List.mem_of_getElem? (i := 643) (by decide +kernel), List.mem_of_getElem? (i := 732) (by decide +kernel), List.mem_of_getElem? (i := 733) (by decide +kernel)⟩
theorem lw_p63 : lw_okq (⟨"LibraryCirculationModel", "isCopy", "(I)Z"⟩, 11) := ⟨⟨by decide +kernel, by decide +kernel⟩, List.mem_of_getElem? (i := 643) (by decide +kernel), List.mem_of_getElem? (i := 759) (by decide +kernel), List.mem_of_getElem? (i := 760) (by decide +kernel)⟩
def lw_privs_4 : List (MethodName × Nat) := [(⟨"LibraryCirculation", "countBefore", "(III)I"⟩, 6), (⟨"LibraryCirculation", "credit", "(III)I"⟩, 6), (⟨"LibraryCirculation$CommandText", "readCommand", "()Z"⟩, 4), (⟨"LibraryCirculation$CommandText", "letterAt", "(I)I"⟩, 4), (⟨"LibraryCirculation$CommandText", "readNumber", "(II)Z"⟩, 4), (⟨"LibraryCirculation", "runCommand", "(I)I"⟩, 6), (⟨"LibraryCirculationModel", "keeps", "()V"⟩, 11), (⟨"LibraryCirculationModel", "puts", "(III)V"⟩, 11), (⟨"LibraryCirculationModel", "frees", "(II)V"⟩, 11), (⟨"LibraryCirculationModel", "of", "(II)I"⟩, 11), (⟨"LibraryCirculationModel", "firstWaiting", "(I)I"⟩, 11), (⟨"LibraryCirculationModel", "hold", "(II)I"⟩, 11), (⟨"LibraryCirculationModel", "assigns", "(III)V"⟩, 11), (⟨"LibraryCirculationModel", "turns", "(IIII)V"⟩, 11), (⟨"LibraryCirculationModel", "made", "(I)I"⟩, 11), (⟨"LibraryCirculationModel", "isCopy", "(I)Z"⟩, 11)]
theorem lw_r4 : ∀ q ∈ lw_privs_4, lw_okq q := List.forall_mem_cons.mpr ⟨lw_p48, List.forall_mem_cons.mpr ⟨lw_p49, List.forall_mem_cons.mpr ⟨lw_p50, List.forall_mem_cons.mpr ⟨lw_p51, List.forall_mem_cons.mpr ⟨lw_p52, List.forall_mem_cons.mpr ⟨lw_p53, List.forall_mem_cons.mpr ⟨lw_p54, List.forall_mem_cons.mpr ⟨lw_p55, List.forall_mem_cons.mpr ⟨lw_p56, List.forall_mem_cons.mpr ⟨lw_p57, List.forall_mem_cons.mpr ⟨lw_p58, List.forall_mem_cons.mpr ⟨lw_p59, List.forall_mem_cons.mpr ⟨lw_p60, List.forall_mem_cons.mpr ⟨lw_p61, List.forall_mem_cons.mpr ⟨lw_p62, List.forall_mem_cons.mpr ⟨lw_p63, fun _ h => absurd h List.not_mem_nil⟩⟩⟩⟩⟩⟩⟩⟩⟩⟩⟩⟩⟩⟩⟩⟩
theorem lw_p64 : lw_okq (⟨"LibraryCirculationModel", "holdOf", "(I)I"⟩, 11) := ⟨⟨by decide +kernel, by decide +kernel⟩, List.mem_of_getElem? (i := 643) (by decide +kernel), List.mem_of_getElem? (i := 771) (by decide +kernel), List.mem_of_getElem? (i := 772) (by decide +kernel)⟩
theorem lw_p65 : lw_okq (⟨"LibraryCirculationModel", "passes", "(I)I"⟩, 11) := ⟨⟨by decide +kernel, by decide +kernel⟩, List.mem_of_getElem? (i := 643) (by decide +kernel), List.mem_of_getElem? (i := 783) (by decide +kernel), List.mem_of_getElem? (i := 784) (by decide +kernel)⟩
theorem lw_p66 : lw_okq (⟨"LibraryCirculationModel", "arrive", "()V"⟩, 11) := ⟨⟨by decide +kernel, by decide +kernel⟩, List.mem_of_getElem? (i := 643) (by decide +kernel), List.mem_of_getElem? (i := 787) (by decide +kernel), List.mem_of_getElem? (i := 788) (by decide +kernel)⟩
theorem lw_p67 : lw_okq (⟨"LibraryCirculationModel", "expire", "()V"⟩, 11) := ⟨⟨by decide +kernel, by decide +kernel⟩, List.mem_of_getElem? (i := 643) (by decide +kernel), List.mem_of_getElem? (i := 791) (by decide +kernel), List.mem_of_getElem? (i := 792) (by decide +kernel)⟩
theorem lw_p68 : lw_okq (⟨"LibraryCirculationModel", "removes", "(I)V"⟩, 11) := ⟨⟨by decide +kernel, by decide +kernel⟩, List.mem_of_getElem? (i := 643) (by decide +kernel), List.mem_of_getElem? (i := 795) (by decide +kernel), List.mem_of_getElem? (i := 796) (by decide +kernel)⟩
theorem lw_p69 : lw_okq (⟨"LibraryCirculationModel", "loses", "(I)V"⟩, 11) := ⟨⟨by decide +kernel, by decide +kernel⟩, List.mem_of_getElem? (i := 643) (by decide +kernel), List.mem_of_getElem? (i := 799) (by decide +kernel), List.mem_of_getElem? (i := 800) (by decide +kernel)⟩
theorem lw_p70 : lw_okq (⟨"LibraryCirculationModel", "late", "(I)I"⟩, 11) := ⟨⟨by decide +kernel, by decide +kernel⟩, List.mem_of_getElem? (i := 643) (by decide +kernel), List.mem_of_getElem? (i := 803) (by decide +kernel), List.mem_of_getElem? (i := 804) (by decide +kernel)⟩
theorem lw_p71 : lw_okq (⟨"LibraryCirculationModel", "owes", "(IIII)V"⟩, 11) := ⟨⟨by decide +kernel, by decide +kernel⟩, List.mem_of_getElem? (i := 643) (by decide +kernel), List.mem_of_getElem? (i := 809) (by decide +kernel), List.mem_of_getElem? (i := 810) (by decide +kernel)⟩
theorem lw_p72 : lw_okq (⟨"LibraryCirculationModel", "lends", "(II)I"⟩, 11) := ⟨⟨by decide +kernel, by decide +kernel⟩, List.mem_of_getElem? (i := 643) (by decide +kernel), List.mem_of_getElem? (i := 817) (by decide +kernel), List.mem_of_getElem? (i := 818) (by decide +kernel)⟩
theorem lw_p73 : lw_okq (⟨"LibraryCirculationModel", "isPatron", "(I)Z"⟩, 11) := ⟨⟨by decide +kernel, by decide +kernel⟩, List.mem_of_getElem? (i := 643) (by decide +kernel), List.mem_of_getElem? (i := 821) (by decide +kernel), List.mem_of_getElem? (i := 822) (by decide +kernel)⟩
theorem lw_p74 : lw_okq (⟨"LibraryCirculationModel", "reasonToLend", "(II)I"⟩, 11) := ⟨⟨by decide +kernel, by decide +kernel⟩, List.mem_of_getElem? (i := 643) (by decide +kernel), List.mem_of_getElem? (i := 825) (by decide +kernel), List.mem_of_getElem? (i := 826) (by decide +kernel)⟩
theorem lw_p75 : lw_okq (⟨"LibraryCirculationModel", "isBarred", "(I)Z"⟩, 11) := ⟨⟨by decide +kernel, by decide +kernel⟩, List.mem_of_getElem? (i := 643) (by decide +kernel), List.mem_of_getElem? (i := 829) (by decide +kernel), List.mem_of_getElem? (i := 830) (by decide +kernel)⟩
theorem lw_p76 : lw_okq (⟨"LibraryCirculationModel", "loans", "(I)I"⟩, 11) := ⟨⟨by decide +kernel, by decide +kernel⟩, List.mem_of_getElem? (i := 643) (by decide +kernel), List.mem_of_getElem? (i := 833) (by decide +kernel), List.mem_of_getElem? (i := 834) (by decide +kernel)⟩
theorem lw_p77 : lw_okq (⟨"LibraryCirculationModel", "bringsBack", "(II)I"⟩, 11) := ⟨⟨by decide +kernel, by decide +kernel⟩, List.mem_of_getElem? (i := 643) (by decide +kernel), List.mem_of_getElem? (i := 841) (by decide +kernel), List.mem_of_getElem? (i := 842) (by decide +kernel)⟩
theorem lw_p78 : lw_okq (⟨"LibraryCirculationModel", "renews", "(I)I"⟩, 11) := ⟨⟨by decide +kernel, by decide +kernel⟩, List.mem_of_getElem? (i := 643) (by decide +kernel), List.mem_of_getElem? (i := 849) (by decide +kernel), List.mem_of_getElem? (i := 850) (by decide +kernel)⟩
theorem lw_p79 : lw_okq (⟨"LibraryCirculationModel", "reasonToRenew", "(I)I"⟩, 11) := ⟨⟨by decide +kernel, by decide +kernel⟩, List.mem_of_getElem? (i := 643) (by decide +kernel), List.mem_of_getElem? (i := 853) (by decide +kernel), List.mem_of_getElem? (i := 854) (by decide +kernel)⟩
def lw_privs_5 : List (MethodName × Nat) := [(⟨"LibraryCirculationModel", "holdOf", "(I)I"⟩, 11), (⟨"LibraryCirculationModel", "passes", "(I)I"⟩, 11), (⟨"LibraryCirculationModel", "arrive", "()V"⟩, 11), (⟨"LibraryCirculationModel", "expire", "()V"⟩, 11), (⟨"LibraryCirculationModel", "removes", "(I)V"⟩, 11), (⟨"LibraryCirculationModel", "loses", "(I)V"⟩, 11), (⟨"LibraryCirculationModel", "late", "(I)I"⟩, 11), (⟨"LibraryCirculationModel", "owes", "(IIII)V"⟩, 11), (⟨"LibraryCirculationModel", "lends", "(II)I"⟩, 11), (⟨"LibraryCirculationModel", "isPatron", "(I)Z"⟩, 11), (⟨"LibraryCirculationModel", "reasonToLend", "(II)I"⟩, 11), (⟨"LibraryCirculationModel", "isBarred", "(I)Z"⟩, 11), (⟨"LibraryCirculationModel", "loans", "(I)I"⟩, 11), (⟨"LibraryCirculationModel", "bringsBack", "(II)I"⟩, 11), (⟨"LibraryCirculationModel", "renews", "(I)I"⟩, 11), (⟨"LibraryCirculationModel", "reasonToRenew", "(I)I"⟩, 11)]
theorem lw_r5 : ∀ q ∈ lw_privs_5, lw_okq q := List.forall_mem_cons.mpr ⟨lw_p64, List.forall_mem_cons.mpr ⟨lw_p65, List.forall_mem_cons.mpr ⟨lw_p66, List.forall_mem_cons.mpr ⟨lw_p67, List.forall_mem_cons.mpr ⟨lw_p68, List.forall_mem_cons.mpr ⟨lw_p69, List.forall_mem_cons.mpr ⟨lw_p70, List.forall_mem_cons.mpr ⟨lw_p71, List.forall_mem_cons.mpr ⟨lw_p72, List.forall_mem_cons.mpr ⟨lw_p73, List.forall_mem_cons.mpr ⟨lw_p74, List.forall_mem_cons.mpr ⟨lw_p75, List.forall_mem_cons.mpr ⟨lw_p76, List.forall_mem_cons.mpr ⟨lw_p77, List.forall_mem_cons.mpr ⟨lw_p78, List.forall_mem_cons.mpr ⟨lw_p79, fun _ h => absurd h List.not_mem_nil⟩⟩⟩⟩⟩⟩⟩⟩⟩⟩⟩⟩⟩⟩⟩⟩
theorem lw_p80 : lw_okq (⟨"LibraryCirculationModel", "waitingFor", "(I)I"⟩, 11) := ⟨⟨by decide +kernel, by decide +kernel⟩, List.mem_of_getElem? (i := 643) (by decide +kernel), List.mem_of_getElem? (i := 857) (by decide +kernel), List.mem_of_getElem? (i := 858) (by decide +kernel)⟩
theorem lw_p81 : lw_okq (⟨"LibraryCirculationModel", "reasonToClaim", "(I)I"⟩, 11) := ⟨⟨by decide +kernel, by decide +kernel⟩, List.mem_of_getElem? (i := 643) (by decide +kernel), List.mem_of_getElem? (i := 865) (by decide +kernel), List.mem_of_getElem? (i := 866) (by decide +kernel)⟩
theorem lw_p82 : lw_okq (⟨"LibraryCirculationModel", "reasonToLose", "(I)I"⟩, 11) := ⟨⟨by decide +kernel, by decide +kernel⟩, List.mem_of_getElem? (i := 643) (by decide +kernel), List.mem_of_getElem? (i := 873) (by decide +kernel), List.mem_of_getElem? (i := 874) (by decide +kernel)⟩
theorem lw_p83 : lw_okq (⟨"LibraryCirculationModel", "laysHold", "(III)I"⟩, 11) := ⟨⟨by decide +kernel, by decide +kernel⟩, List.mem_of_getElem? (i := 643) (by decide +kernel), List.mem_of_getElem? (i := 881) (by decide +kernel), List.mem_of_getElem? (i := 882) (by decide +kernel)⟩
theorem lw_p84 : lw_okq (⟨"LibraryCirculationModel", "reasonToHold", "(II)I"⟩, 11) := ⟨⟨by decide +kernel, by decide +kernel⟩, List.mem_of_getElem? (i := 643) (by decide +kernel), List.mem_of_getElem? (i := 885) (by decide +kernel), List.mem_of_getElem? (i := 886) (by decide +kernel)⟩
theorem lw_p85 : lw_okq (⟨"LibraryCirculationModel", "holdBy", "(II)I"⟩, 11) := ⟨⟨by decide +kernel, by decide +kernel⟩, List.mem_of_getElem? (i := 643) (by decide +kernel), List.mem_of_getElem? (i := 889) (by decide +kernel), List.mem_of_getElem? (i := 890) (by decide +kernel)⟩
theorem lw_p86 : lw_okq (⟨"LibraryCirculationModel", "nearest", "(II)I"⟩, 11) := ⟨⟨by decide +kernel, by decide +kernel⟩, List.mem_of_getElem? (i := 643) (by decide +kernel), List.mem_of_getElem? (i := 893) (by decide +kernel), List.mem_of_getElem? (i := 894) (by decide +kernel)⟩
theorem lw_p87 : lw_okq (⟨"LibraryCirculationModel", "recalls", "(I)V"⟩, 11) := ⟨⟨by decide +kernel, by decide +kernel⟩, List.mem_of_getElem? (i := 643) (by decide +kernel), List.mem_of_getElem? (i := 897) (by decide +kernel), List.mem_of_getElem? (i := 898) (by decide +kernel)⟩
theorem lw_p88 : lw_okq (⟨"LibraryCirculationModel", "cancels", "(II)I"⟩, 11) := ⟨⟨by decide +kernel, by decide +kernel⟩, List.mem_of_getElem? (i := 643) (by decide +kernel), List.mem_of_getElem? (i := 906) (by decide +kernel), List.mem_of_getElem? (i := 907) (by decide +kernel)⟩
theorem lw_p89 : lw_okq (⟨"LibraryCirculationModel", "holds", "(I)I"⟩, 11) := ⟨⟨by decide +kernel, by decide +kernel⟩, List.mem_of_getElem? (i := 643) (by decide +kernel), List.mem_of_getElem? (i := 910) (by decide +kernel), List.mem_of_getElem? (i := 911) (by decide +kernel)⟩
theorem lw_p90 : lw_okq (⟨"LibraryCirculationModel", "freeDay", "(II)I"⟩, 11) := ⟨⟨by decide +kernel, by decide +kernel⟩, List.mem_of_getElem? (i := 643) (by decide +kernel), List.mem_of_getElem? (i := 938) (by decide +kernel), List.mem_of_getElem? (i := 939) (by decide +kernel)⟩
theorem lw_p91 : lw_okq (⟨"LibraryCirculationModel", "holdsOf", "(I)I"⟩, 11) := ⟨⟨by decide +kernel, by decide +kernel⟩, List.mem_of_getElem? (i := 643) (by decide +kernel), List.mem_of_getElem? (i := 958) (by decide +kernel), List.mem_of_getElem? (i := 959) (by decide +kernel)⟩
theorem lw_p92 : lw_okq (⟨"LibraryCirculationModel", "overdue", "(I)I"⟩, 11) := ⟨⟨by decide +kernel, by decide +kernel⟩, List.mem_of_getElem? (i := 643) (by decide +kernel), List.mem_of_getElem? (i := 962) (by decide +kernel), List.mem_of_getElem? (i := 963) (by decide +kernel)⟩
theorem lw_p93 : lw_okq (⟨"LibraryCirculationModel", "byDate", "(III)I"⟩, 11) := ⟨⟨by decide +kernel, by decide +kernel⟩, List.mem_of_getElem? (i := 643) (by decide +kernel), List.mem_of_getElem? (i := 970) (by decide +kernel), List.mem_of_getElem? (i := 971) (by decide +kernel)⟩
theorem lw_p94 : lw_okq (⟨"LibraryCirculationModel", "lessens", "(III)I"⟩, 11) := ⟨⟨by decide +kernel, by decide +kernel⟩, List.mem_of_getElem? (i := 643) (by decide +kernel), List.mem_of_getElem? (i := 982) (by decide +kernel), List.mem_of_getElem? (i := 983) (by decide +kernel)⟩
theorem lw_p95 : lw_okq (⟨"LibraryCirculationModel", "command", "()I"⟩, 11) := ⟨⟨by decide +kernel, by decide +kernel⟩, List.mem_of_getElem? (i := 643) (by decide +kernel), List.mem_of_getElem? (i := 1019) (by decide +kernel), List.mem_of_getElem? (i := 1020) (by decide +kernel)⟩
def lw_privs_6 : List (MethodName × Nat) := [(⟨"LibraryCirculationModel", "waitingFor", "(I)I"⟩, 11), (⟨"LibraryCirculationModel", "reasonToClaim", "(I)I"⟩, 11), (⟨"LibraryCirculationModel", "reasonToLose", "(I)I"⟩, 11), (⟨"LibraryCirculationModel", "laysHold", "(III)I"⟩, 11), (⟨"LibraryCirculationModel", "reasonToHold", "(II)I"⟩, 11), (⟨"LibraryCirculationModel", "holdBy", "(II)I"⟩, 11), (⟨"LibraryCirculationModel", "nearest", "(II)I"⟩, 11), (⟨"LibraryCirculationModel", "recalls", "(I)V"⟩, 11), (⟨"LibraryCirculationModel", "cancels", "(II)I"⟩, 11), (⟨"LibraryCirculationModel", "holds", "(I)I"⟩, 11), (⟨"LibraryCirculationModel", "freeDay", "(II)I"⟩, 11), (⟨"LibraryCirculationModel", "holdsOf", "(I)I"⟩, 11), (⟨"LibraryCirculationModel", "overdue", "(I)I"⟩, 11), (⟨"LibraryCirculationModel", "byDate", "(III)I"⟩, 11), (⟨"LibraryCirculationModel", "lessens", "(III)I"⟩, 11), (⟨"LibraryCirculationModel", "command", "()I"⟩, 11)]
theorem lw_r6 : ∀ q ∈ lw_privs_6, lw_okq q := List.forall_mem_cons.mpr ⟨lw_p80, List.forall_mem_cons.mpr ⟨lw_p81, List.forall_mem_cons.mpr ⟨lw_p82, List.forall_mem_cons.mpr ⟨lw_p83, List.forall_mem_cons.mpr ⟨lw_p84, List.forall_mem_cons.mpr ⟨lw_p85, List.forall_mem_cons.mpr ⟨lw_p86, List.forall_mem_cons.mpr ⟨lw_p87, List.forall_mem_cons.mpr ⟨lw_p88, List.forall_mem_cons.mpr ⟨lw_p89, List.forall_mem_cons.mpr ⟨lw_p90, List.forall_mem_cons.mpr ⟨lw_p91, List.forall_mem_cons.mpr ⟨lw_p92, List.forall_mem_cons.mpr ⟨lw_p93, List.forall_mem_cons.mpr ⟨lw_p94, List.forall_mem_cons.mpr ⟨lw_p95, fun _ h => absurd h List.not_mem_nil⟩⟩⟩⟩⟩⟩⟩⟩⟩⟩⟩⟩⟩⟩⟩⟩
theorem lw_p96 : lw_okq (⟨"LibraryCirculationModel", "sign", "()I"⟩, 11) := ⟨⟨by decide +kernel, by decide +kernel⟩, List.mem_of_getElem? (i := 643) (by decide +kernel), List.mem_of_getElem? (i := 1023) (by decide +kernel), List.mem_of_getElem? (i := 1024) (by decide +kernel)⟩
theorem lw_p97 : lw_okq (⟨"LibraryCirculationModel", "number", "()I"⟩, 11) := ⟨⟨by decide +kernel, by decide +kernel⟩, List.mem_of_getElem? (i := 643) (by decide +kernel), List.mem_of_getElem? (i := 1027) (by decide +kernel), List.mem_of_getElem? (i := 1028) (by decide +kernel)⟩
theorem lw_p98 : lw_okq (⟨"LibraryCirculationModel", "does", "(I)I"⟩, 11) := ⟨⟨by decide +kernel, by decide +kernel⟩, List.mem_of_getElem? (i := 643) (by decide +kernel), List.mem_of_getElem? (i := 1031) (by decide +kernel), List.mem_of_getElem? (i := 1032) (by decide +kernel)⟩
def lw_privs_7 : List (MethodName × Nat) := [(⟨"LibraryCirculationModel", "sign", "()I"⟩, 11), (⟨"LibraryCirculationModel", "number", "()I"⟩, 11), (⟨"LibraryCirculationModel", "does", "(I)I"⟩, 11)]
theorem lw_r7 : ∀ q ∈ lw_privs_7, lw_okq q := List.forall_mem_cons.mpr ⟨lw_p96, List.forall_mem_cons.mpr ⟨lw_p97, List.forall_mem_cons.mpr ⟨lw_p98, fun _ h => absurd h List.not_mem_nil⟩⟩⟩
def lw_privs : List (MethodName × Nat) := lw_privs_1 ++ (lw_privs_2 ++ (lw_privs_3 ++ (lw_privs_4 ++ (lw_privs_5 ++ (lw_privs_6 ++ (lw_privs_7))))))
def lw_tbl : List Cond := k2_sels lw_privs ++ tables_1
theorem lw_privs_ok : ∀ q ∈ lw_privs, lw_okq q := by
  show ∀ q ∈ lw_privs_1 ++ (lw_privs_2 ++ (lw_privs_3 ++ (lw_privs_4 ++ (lw_privs_5 ++ (lw_privs_6 ++ (lw_privs_7)))))), lw_okq q
  exact List.forall_mem_append.mpr ⟨lw_r1, List.forall_mem_append.mpr ⟨lw_r2, List.forall_mem_append.mpr ⟨lw_r3, List.forall_mem_append.mpr ⟨lw_r4, List.forall_mem_append.mpr ⟨lw_r5, List.forall_mem_append.mpr ⟨lw_r6, lw_r7⟩⟩⟩⟩⟩⟩
-- ===== end of PART A; then your names; then what follows =====
def RX0 : String := "LibraryCirculation$CommandText"
def TX0 : u_T := fun k => match k with
  | 0 => ("LibraryCirculation$CommandText", "letters", "[I", true)
  | 1 => ("LibraryCirculation$CommandText", "length", "I", false)
  | 2 => ("LibraryCirculation$CommandText", "position", "I", false)
  | _ => ("LibraryCirculation$CommandText", "commands", "LLibraryCirculation$Table;", true)
def tyX0 : Nat → FieldType := fun k => match k with
  | 0 => .array .int
  | 1 => .int
  | 2 => .int
  | _ => .object "LibraryCirculation$Table"
theorem nmX0 : ∀ a, a < 4 → ∀ b, b < 4 → a ≠ b → (TX0 a).2.1 ≠ (TX0 b).2.1 := by decide +kernel
theorem tyX0_ok : ∀ k, k < 4 → parseFieldDescriptor (TX0 k).2.2.1 = some (tyX0 k) := by decide +kernel
abbrev cX0_init : ByteArray := prog_2_method_1_code
def yX0_init : MethodName := ⟨RX0, "<init>", "()V"⟩
abbrev cX0_append : ByteArray := prog_2_method_2_code
def yX0_append : MethodName := ⟨RX0, "append", "(I)I"⟩
abbrev cX0_emptyBuffer : ByteArray := prog_2_method_3_code
def yX0_emptyBuffer : MethodName := ⟨RX0, "emptyBuffer", "()V"⟩
abbrev cX0_commandCount : ByteArray := prog_2_method_4_code
def yX0_commandCount : MethodName := ⟨RX0, "commandCount", "()I"⟩
abbrev cX0_letter : ByteArray := prog_2_method_5_code
def yX0_letter : MethodName := ⟨RX0, "letter", "(I)I"⟩
abbrev cX0_number : ByteArray := prog_2_method_6_code
def yX0_number : MethodName := ⟨RX0, "number", "(II)I"⟩
abbrev cX0_position : ByteArray := prog_2_method_7_code
def yX0_position : MethodName := ⟨RX0, "position", "()I"⟩
abbrev cX0_readAll : ByteArray := prog_2_method_8_code
def yX0_readAll : MethodName := ⟨RX0, "readAll", "()Z"⟩
abbrev cX0_readCommand : ByteArray := prog_2_method_9_code
def yX0_readCommand : MethodName := ⟨RX0, "readCommand", "()Z"⟩
abbrev cX0_readNumber : ByteArray := prog_2_method_10_code
def yX0_readNumber : MethodName := ⟨RX0, "readNumber", "(II)Z"⟩
abbrev cX0_letterAt : ByteArray := prog_2_method_11_code
def yX0_letterAt : MethodName := ⟨RX0, "letterAt", "(I)I"⟩
abbrev cX0_isDigit : ByteArray := prog_2_method_12_code
def yX0_isDigit : MethodName := ⟨RX0, "isDigit", "(I)Z"⟩
abbrev cX0_numbersOf : ByteArray := prog_2_method_13_code
def yX0_numbersOf : MethodName := ⟨RX0, "numbersOf", "(I)I"⟩
def RX1 : String := "LibraryCirculation$History"
def TX1 : u_T := fun k => match k with
  | 0 => ("LibraryCirculation$History", "states", "[LLibraryCirculation$State;", true)
  | 1 => ("LibraryCirculation$History", "next", "I", false)
  | _ => ("LibraryCirculation$History", "size", "I", false)
def tyX1 : Nat → FieldType := fun k => match k with
  | 0 => .array (.object "LibraryCirculation$State")
  | 1 => .int
  | _ => .int
theorem nmX1 : ∀ a, a < 3 → ∀ b, b < 3 → a ≠ b → (TX1 a).2.1 ≠ (TX1 b).2.1 := by decide +kernel
theorem tyX1_ok : ∀ k, k < 3 → parseFieldDescriptor (TX1 k).2.2.1 = some (tyX1 k) := by decide +kernel
abbrev cX1_init : ByteArray := prog_3_method_1_code
def yX1_init : MethodName := ⟨RX1, "<init>", "()V"⟩
abbrev cX1_size : ByteArray := prog_3_method_2_code
def yX1_size : MethodName := ⟨RX1, "size", "()I"⟩
abbrev cX1_isEmpty : ByteArray := prog_3_method_3_code
def yX1_isEmpty : MethodName := ⟨RX1, "isEmpty", "()Z"⟩
abbrev cX1_push : ByteArray := prog_3_method_4_code
def yX1_push : MethodName := ⟨RX1, "push", "(LLibraryCirculation$State;)V"⟩
abbrev cX1_pop : ByteArray := prog_3_method_5_code
def yX1_pop : MethodName := ⟨RX1, "pop", "(LLibraryCirculation$State;)V"⟩
abbrev cX1_at : ByteArray := prog_3_method_6_code
def yX1_at : MethodName := ⟨RX1, "at", "(I)LLibraryCirculation$State;"⟩
def RX2 : String := "LibraryCirculation$State"
def TX2 : u_T := fun k => match k with
  | 0 => ("LibraryCirculation$State", "copies", "LLibraryCirculation$Table;", true)
  | 1 => ("LibraryCirculation$State", "patrons", "LLibraryCirculation$Table;", true)
  | 2 => ("LibraryCirculation$State", "holds", "LLibraryCirculation$Table;", true)
  | 3 => ("LibraryCirculation$State", "ledger", "LLibraryCirculation$Table;", true)
  | 4 => ("LibraryCirculation$State", "settings", "LLibraryCirculation$Table;", true)
  | _ => ("LibraryCirculation$State", "today", "I", false)
def tyX2 : Nat → FieldType := fun k => match k with
  | 0 => .object "LibraryCirculation$Table"
  | 1 => .object "LibraryCirculation$Table"
  | 2 => .object "LibraryCirculation$Table"
  | 3 => .object "LibraryCirculation$Table"
  | 4 => .object "LibraryCirculation$Table"
  | _ => .int
theorem nmX2 : ∀ a, a < 6 → ∀ b, b < 6 → a ≠ b → (TX2 a).2.1 ≠ (TX2 b).2.1 := by decide +kernel
theorem tyX2_ok : ∀ k, k < 6 → parseFieldDescriptor (TX2 k).2.2.1 = some (tyX2 k) := by decide +kernel
abbrev cX2_init : ByteArray := prog_4_method_1_code
def yX2_init : MethodName := ⟨RX2, "<init>", "()V"⟩
abbrev cX2_copyFrom : ByteArray := prog_4_method_2_code
def yX2_copyFrom : MethodName := ⟨RX2, "copyFrom", "(LLibraryCirculation$State;)V"⟩
def RX3 : String := "LibraryCirculation$Table"
def TX3 : u_T := fun k => match k with
  | 0 => ("LibraryCirculation$Table", "capacity", "I", true)
  | 1 => ("LibraryCirculation$Table", "columns", "I", true)
  | 2 => ("LibraryCirculation$Table", "cells", "[I", true)
  | _ => ("LibraryCirculation$Table", "size", "I", false)
def tyX3 : Nat → FieldType := fun k => match k with
  | 0 => .int
  | 1 => .int
  | 2 => .array .int
  | _ => .int
theorem nmX3 : ∀ a, a < 4 → ∀ b, b < 4 → a ≠ b → (TX3 a).2.1 ≠ (TX3 b).2.1 := by decide +kernel
theorem tyX3_ok : ∀ k, k < 4 → parseFieldDescriptor (TX3 k).2.2.1 = some (tyX3 k) := by decide +kernel
abbrev cX3_init : ByteArray := prog_5_method_1_code
def yX3_init : MethodName := ⟨RX3, "<init>", "(II)V"⟩
abbrev cX3_size : ByteArray := prog_5_method_2_code
def yX3_size : MethodName := ⟨RX3, "size", "()I"⟩
abbrev cX3_has : ByteArray := prog_5_method_3_code
def yX3_has : MethodName := ⟨RX3, "has", "(I)Z"⟩
abbrev cX3_addRow : ByteArray := prog_5_method_4_code
def yX3_addRow : MethodName := ⟨RX3, "addRow", "()I"⟩
abbrev cX3_removeRow : ByteArray := prog_5_method_5_code
def yX3_removeRow : MethodName := ⟨RX3, "removeRow", "(I)V"⟩
abbrev cX3_removeAllRows : ByteArray := prog_5_method_6_code
def yX3_removeAllRows : MethodName := ⟨RX3, "removeAllRows", "()V"⟩
abbrev cX3_get : ByteArray := prog_5_method_7_code
def yX3_get : MethodName := ⟨RX3, "get", "(II)I"⟩
abbrev cX3_put : ByteArray := prog_5_method_8_code
def yX3_put : MethodName := ⟨RX3, "put", "(III)V"⟩
abbrev cX3_overwriteWith : ByteArray := prog_5_method_9_code
def yX3_overwriteWith : MethodName := ⟨RX3, "overwriteWith", "(LLibraryCirculation$Table;)V"⟩
def RX4 : String := "LibraryCirculation"
def TX4 : u_T := fun k => match k with
  | 0 => ("LibraryCirculation", "now", "LLibraryCirculation$State;", true)
  | 1 => ("LibraryCirculation", "settled", "LLibraryCirculation$State;", true)
  | 2 => ("LibraryCirculation", "saved", "LLibraryCirculation$State;", true)
  | 3 => ("LibraryCirculation", "hasSaved", "Z", false)
  | 4 => ("LibraryCirculation", "history", "LLibraryCirculation$History;", true)
  | _ => ("LibraryCirculation", "text", "LLibraryCirculation$CommandText;", true)
def tyX4 : Nat → FieldType := fun k => match k with
  | 0 => .object "LibraryCirculation$State"
  | 1 => .object "LibraryCirculation$State"
  | 2 => .object "LibraryCirculation$State"
  | 3 => .boolean
  | 4 => .object "LibraryCirculation$History"
  | _ => .object "LibraryCirculation$CommandText"
theorem nmX4 : ∀ a, a < 6 → ∀ b, b < 6 → a ≠ b → (TX4 a).2.1 ≠ (TX4 b).2.1 := by decide +kernel
theorem tyX4_ok : ∀ k, k < 6 → parseFieldDescriptor (TX4 k).2.2.1 = some (tyX4 k) := by decide +kernel
abbrev cX4_init : ByteArray := prog_1_method_1_code
def yX4_init : MethodName := ⟨RX4, "<init>", "()V"⟩
abbrev cX4_addCopy : ByteArray := prog_1_method_2_code
def yX4_addCopy : MethodName := ⟨RX4, "addCopy", "(II)I"⟩
abbrev cX4_addPatron : ByteArray := prog_1_method_3_code
def yX4_addPatron : MethodName := ⟨RX4, "addPatron", "()I"⟩
abbrev cX4_set : ByteArray := prog_1_method_4_code
def yX4_set : MethodName := ⟨RX4, "set", "(II)I"⟩
abbrev cX4_setting : ByteArray := prog_1_method_5_code
def yX4_setting : MethodName := ⟨RX4, "setting", "(I)I"⟩
abbrev cX4_setFloating : ByteArray := prog_1_method_6_code
def yX4_setFloating : MethodName := ⟨RX4, "setFloating", "(IZ)I"⟩
abbrev cX4_copyCount : ByteArray := prog_1_method_7_code
def yX4_copyCount : MethodName := ⟨RX4, "copyCount", "(I)I"⟩
abbrev cX4_copy : ByteArray := prog_1_method_8_code
def yX4_copy : MethodName := ⟨RX4, "copy", "(II)I"⟩
abbrev cX4_day : ByteArray := prog_1_method_9_code
def yX4_day : MethodName := ⟨RX4, "day", "()I"⟩
abbrev cX4_pass : ByteArray := prog_1_method_10_code
def yX4_pass : MethodName := ⟨RX4, "pass", "(I)I"⟩
abbrev cX4_letPass : ByteArray := prog_1_method_11_code
def yX4_letPass : MethodName := ⟨RX4, "letPass", "(I)I"⟩
abbrev cX4_arriveOnThisDay : ByteArray := prog_1_method_12_code
def yX4_arriveOnThisDay : MethodName := ⟨RX4, "arriveOnThisDay", "()V"⟩
abbrev cX4_expireBeforeThisDay : ByteArray := prog_1_method_13_code
def yX4_expireBeforeThisDay : MethodName := ⟨RX4, "expireBeforeThisDay", "()V"⟩
abbrev cX4_endClaims : ByteArray := prog_1_method_14_code
def yX4_endClaims : MethodName := ⟨RX4, "endClaims", "()V"⟩
abbrev cX4_lend : ByteArray := prog_1_method_15_code
def yX4_lend : MethodName := ⟨RX4, "lend", "(II)I"⟩
abbrev cX4_lendOut : ByteArray := prog_1_method_16_code
def yX4_lendOut : MethodName := ⟨RX4, "lendOut", "(II)I"⟩
abbrev cX4_reasonAgainstLending : ByteArray := prog_1_method_17_code
def yX4_reasonAgainstLending : MethodName := ⟨RX4, "reasonAgainstLending", "(II)I"⟩
abbrev cX4_canBeTakenBy : ByteArray := prog_1_method_18_code
def yX4_canBeTakenBy : MethodName := ⟨RX4, "canBeTakenBy", "(II)Z"⟩
abbrev cX4_bringBack : ByteArray := prog_1_method_19_code
def yX4_bringBack : MethodName := ⟨RX4, "bringBack", "(II)I"⟩
abbrev cX4_takeBack : ByteArray := prog_1_method_20_code
def yX4_takeBack : MethodName := ⟨RX4, "takeBack", "(II)I"⟩
abbrev cX4_renew : ByteArray := prog_1_method_21_code
def yX4_renew : MethodName := ⟨RX4, "renew", "(I)I"⟩
abbrev cX4_renewLoan : ByteArray := prog_1_method_22_code
def yX4_renewLoan : MethodName := ⟨RX4, "renewLoan", "(I)I"⟩
abbrev cX4_reasonAgainstRenewing : ByteArray := prog_1_method_23_code
def yX4_reasonAgainstRenewing : MethodName := ⟨RX4, "reasonAgainstRenewing", "(I)I"⟩
abbrev cX4_claim : ByteArray := prog_1_method_24_code
def yX4_claim : MethodName := ⟨RX4, "claim", "(I)I"⟩
abbrev cX4_reasonAgainstClaiming : ByteArray := prog_1_method_25_code
def yX4_reasonAgainstClaiming : MethodName := ⟨RX4, "reasonAgainstClaiming", "(I)I"⟩
abbrev cX4_lose : ByteArray := prog_1_method_26_code
def yX4_lose : MethodName := ⟨RX4, "lose", "(I)I"⟩
abbrev cX4_reasonAgainstLosing : ByteArray := prog_1_method_27_code
def yX4_reasonAgainstLosing : MethodName := ⟨RX4, "reasonAgainstLosing", "(I)I"⟩
abbrev cX4_hold : ByteArray := prog_1_method_28_code
def yX4_hold : MethodName := ⟨RX4, "hold", "(III)I"⟩
abbrev cX4_makeHold : ByteArray := prog_1_method_29_code
def yX4_makeHold : MethodName := ⟨RX4, "makeHold", "(III)I"⟩
abbrev cX4_reasonAgainstHolding : ByteArray := prog_1_method_30_code
def yX4_reasonAgainstHolding : MethodName := ⟨RX4, "reasonAgainstHolding", "(II)I"⟩
abbrev cX4_cancelHold : ByteArray := prog_1_method_31_code
def yX4_cancelHold : MethodName := ⟨RX4, "cancelHold", "(II)I"⟩
abbrev cX4_dropHold : ByteArray := prog_1_method_32_code
def yX4_dropHold : MethodName := ⟨RX4, "dropHold", "(II)I"⟩
abbrev cX4_reason : ByteArray := prog_1_method_33_code
def yX4_reason : MethodName := ⟨RX4, "reason", "(III)I"⟩
abbrev cX4_holdCount : ByteArray := prog_1_method_34_code
def yX4_holdCount : MethodName := ⟨RX4, "holdCount", "(I)I"⟩
abbrev cX4_waiting : ByteArray := prog_1_method_35_code
def yX4_waiting : MethodName := ⟨RX4, "waiting", "(I)I"⟩
abbrev cX4_holdAt : ByteArray := prog_1_method_36_code
def yX4_holdAt : MethodName := ⟨RX4, "holdAt", "(III)I"⟩
abbrev cX4_place : ByteArray := prog_1_method_37_code
def yX4_place : MethodName := ⟨RX4, "place", "(II)I"⟩
abbrev cX4_estimate : ByteArray := prog_1_method_38_code
def yX4_estimate : MethodName := ⟨RX4, "estimate", "(II)I"⟩
abbrev cX4_expectedDay : ByteArray := prog_1_method_39_code
def yX4_expectedDay : MethodName := ⟨RX4, "expectedDay", "(II)I"⟩
abbrev cX4_expectedBefore : ByteArray := prog_1_method_40_code
def yX4_expectedBefore : MethodName := ⟨RX4, "expectedBefore", "(III)I"⟩
abbrev cX4_patronCount : ByteArray := prog_1_method_41_code
def yX4_patronCount : MethodName := ⟨RX4, "patronCount", "()I"⟩
abbrev cX4_owes : ByteArray := prog_1_method_42_code
def yX4_owes : MethodName := ⟨RX4, "owes", "(I)I"⟩
abbrev cX4_accrued : ByteArray := prog_1_method_43_code
def yX4_accrued : MethodName := ⟨RX4, "accrued", "(I)I"⟩
abbrev cX4_patron : ByteArray := prog_1_method_44_code
def yX4_patron : MethodName := ⟨RX4, "patron", "(II)I"⟩
abbrev cX4_loanOf : ByteArray := prog_1_method_45_code
def yX4_loanOf : MethodName := ⟨RX4, "loanOf", "(II)I"⟩
abbrev cX4_fine : ByteArray := prog_1_method_46_code
def yX4_fine : MethodName := ⟨RX4, "fine", "(I)I"⟩
abbrev cX4_pay : ByteArray := prog_1_method_47_code
def yX4_pay : MethodName := ⟨RX4, "pay", "(II)I"⟩
abbrev cX4_waive : ByteArray := prog_1_method_48_code
def yX4_waive : MethodName := ⟨RX4, "waive", "(II)I"⟩
abbrev cX4_credit : ByteArray := prog_1_method_49_code
def yX4_credit : MethodName := ⟨RX4, "credit", "(III)I"⟩
abbrev cX4_ledgerSize : ByteArray := prog_1_method_50_code
def yX4_ledgerSize : MethodName := ⟨RX4, "ledgerSize", "()I"⟩
abbrev cX4_ledger : ByteArray := prog_1_method_51_code
def yX4_ledger : MethodName := ⟨RX4, "ledger", "(II)I"⟩
abbrev cX4_ledgerSum : ByteArray := prog_1_method_52_code
def yX4_ledgerSum : MethodName := ⟨RX4, "ledgerSum", "(II)I"⟩
abbrev cX4_shelf : ByteArray := prog_1_method_53_code
def yX4_shelf : MethodName := ⟨RX4, "shelf", "(II)I"⟩
abbrev cX4_arriving : ByteArray := prog_1_method_54_code
def yX4_arriving : MethodName := ⟨RX4, "arriving", "(II)I"⟩
abbrev cX4_feed : ByteArray := prog_1_method_55_code
def yX4_feed : MethodName := ⟨RX4, "feed", "(I)I"⟩
abbrev cX4_execute : ByteArray := prog_1_method_56_code
def yX4_execute : MethodName := ⟨RX4, "execute", "()I"⟩
abbrev cX4_runCommand : ByteArray := prog_1_method_57_code
def yX4_runCommand : MethodName := ⟨RX4, "runCommand", "(I)I"⟩
abbrev cX4_save : ByteArray := prog_1_method_58_code
def yX4_save : MethodName := ⟨RX4, "save", "()I"⟩
abbrev cX4_restore : ByteArray := prog_1_method_59_code
def yX4_restore : MethodName := ⟨RX4, "restore", "()I"⟩
abbrev cX4_undo : ByteArray := prog_1_method_60_code
def yX4_undo : MethodName := ⟨RX4, "undo", "()I"⟩
abbrev cX4_settle : ByteArray := prog_1_method_61_code
def yX4_settle : MethodName := ⟨RX4, "settle", "(I)I"⟩
abbrev cX4_commit : ByteArray := prog_1_method_62_code
def yX4_commit : MethodName := ⟨RX4, "commit", "()V"⟩
abbrev cX4_refusal : ByteArray := prog_1_method_63_code
def yX4_refusal : MethodName := ⟨RX4, "refusal", "(I)I"⟩
abbrev cX4_isBranch : ByteArray := prog_1_method_64_code
def yX4_isBranch : MethodName := ⟨RX4, "isBranch", "(I)Z"⟩
abbrev cX4_isTitle : ByteArray := prog_1_method_65_code
def yX4_isTitle : MethodName := ⟨RX4, "isTitle", "(I)Z"⟩
abbrev cX4_isCopy : ByteArray := prog_1_method_66_code
def yX4_isCopy : MethodName := ⟨RX4, "isCopy", "(I)Z"⟩
abbrev cX4_isPatron : ByteArray := prog_1_method_67_code
def yX4_isPatron : MethodName := ⟨RX4, "isPatron", "(I)Z"⟩
abbrev cX4_isInRange : ByteArray := prog_1_method_68_code
def yX4_isInRange : MethodName := ⟨RX4, "isInRange", "(II)Z"⟩
abbrev cX4_valueOf : ByteArray := prog_1_method_69_code
def yX4_valueOf : MethodName := ⟨RX4, "valueOf", "(I)I"⟩
abbrev cX4_stateOf : ByteArray := prog_1_method_70_code
def yX4_stateOf : MethodName := ⟨RX4, "stateOf", "(I)I"⟩
abbrev cX4_titleOf : ByteArray := prog_1_method_71_code
def yX4_titleOf : MethodName := ⟨RX4, "titleOf", "(I)I"⟩
abbrev cX4_isAt : ByteArray := prog_1_method_72_code
def yX4_isAt : MethodName := ⟨RX4, "isAt", "(III)Z"⟩
abbrev cX4_isWithPatron : ByteArray := prog_1_method_73_code
def yX4_isWithPatron : MethodName := ⟨RX4, "isWithPatron", "(I)Z"⟩
abbrev cX4_putCopy : ByteArray := prog_1_method_74_code
def yX4_putCopy : MethodName := ⟨RX4, "putCopy", "(IIII)V"⟩
abbrev cX4_putLoan : ByteArray := prog_1_method_75_code
def yX4_putLoan : MethodName := ⟨RX4, "putLoan", "(IIII)V"⟩
abbrev cX4_becomeFree : ByteArray := prog_1_method_76_code
def yX4_becomeFree : MethodName := ⟨RX4, "becomeFree", "(II)V"⟩
abbrev cX4_becomeLost : ByteArray := prog_1_method_77_code
def yX4_becomeLost : MethodName := ⟨RX4, "becomeLost", "(I)V"⟩
abbrev cX4_wayBetween : ByteArray := prog_1_method_78_code
def yX4_wayBetween : MethodName := ⟨RX4, "wayBetween", "(II)I"⟩
abbrev cX4_nearestOnShelf : ByteArray := prog_1_method_79_code
def yX4_nearestOnShelf : MethodName := ⟨RX4, "nearestOnShelf", "(II)I"⟩
abbrev cX4_recallFor : ByteArray := prog_1_method_80_code
def yX4_recallFor : MethodName := ⟨RX4, "recallFor", "(I)V"⟩
abbrev cX4_earliestNotRecalled : ByteArray := prog_1_method_81_code
def yX4_earliestNotRecalled : MethodName := ⟨RX4, "earliestNotRecalled", "(I)I"⟩
abbrev cX4_nextByDay : ByteArray := prog_1_method_82_code
def yX4_nextByDay : MethodName := ⟨RX4, "nextByDay", "(III)I"⟩
abbrev cX4_countBefore : ByteArray := prog_1_method_83_code
def yX4_countBefore : MethodName := ⟨RX4, "countBefore", "(III)I"⟩
abbrev cX4_isBefore : ByteArray := prog_1_method_84_code
def yX4_isBefore : MethodName := ⟨RX4, "isBefore", "(IIII)Z"⟩
abbrev cX4_findHold : ByteArray := prog_1_method_85_code
def yX4_findHold : MethodName := ⟨RX4, "findHold", "(II)I"⟩
abbrev cX4_removeHold : ByteArray := prog_1_method_86_code
def yX4_removeHold : MethodName := ⟨RX4, "removeHold", "(I)V"⟩
abbrev cX4_isWaiting : ByteArray := prog_1_method_87_code
def yX4_isWaiting : MethodName := ⟨RX4, "isWaiting", "(II)Z"⟩
abbrev cX4_firstWaiting : ByteArray := prog_1_method_88_code
def yX4_firstWaiting : MethodName := ⟨RX4, "firstWaiting", "(I)I"⟩
abbrev cX4_waitingBefore : ByteArray := prog_1_method_89_code
def yX4_waitingBefore : MethodName := ⟨RX4, "waitingBefore", "(II)I"⟩
abbrev cX4_holdsBefore : ByteArray := prog_1_method_90_code
def yX4_holdsBefore : MethodName := ⟨RX4, "holdsBefore", "(II)I"⟩
abbrev cX4_holdsOf : ByteArray := prog_1_method_91_code
def yX4_holdsOf : MethodName := ⟨RX4, "holdsOf", "(I)I"⟩
abbrev cX4_loanCount : ByteArray := prog_1_method_92_code
def yX4_loanCount : MethodName := ⟨RX4, "loanCount", "(I)I"⟩
abbrev cX4_overdueCount : ByteArray := prog_1_method_93_code
def yX4_overdueCount : MethodName := ⟨RX4, "overdueCount", "(I)I"⟩
abbrev cX4_hasLoanOf : ByteArray := prog_1_method_94_code
def yX4_hasLoanOf : MethodName := ⟨RX4, "hasLoanOf", "(II)Z"⟩
abbrev cX4_owesTheLimit : ByteArray := prog_1_method_95_code
def yX4_owesTheLimit : MethodName := ⟨RX4, "owesTheLimit", "(I)Z"⟩
abbrev cX4_fineOf : ByteArray := prog_1_method_96_code
def yX4_fineOf : MethodName := ⟨RX4, "fineOf", "(I)I"⟩
abbrev cX4_enter : ByteArray := prog_1_method_97_code
def yX4_enter : MethodName := ⟨RX4, "enter", "(IIII)V"⟩
def RX5 : String := "LibraryCirculationModel"
def TX5 : u_T := fun k => match k with
  | 0 => ("LibraryCirculationModel", "now", "[I", true)
  | 1 => ("LibraryCirculationModel", "before", "[I", true)
  | 2 => ("LibraryCirculationModel", "image", "[I", true)
  | 3 => ("LibraryCirculationModel", "changes", "[I", true)
  | 4 => ("LibraryCirculationModel", "changed", "I", false)
  | 5 => ("LibraryCirculationModel", "isSaved", "Z", false)
  | 6 => ("LibraryCirculationModel", "text", "[I", true)
  | 7 => ("LibraryCirculationModel", "numbers", "[I", true)
  | 8 => ("LibraryCirculationModel", "fed", "I", false)
  | 9 => ("LibraryCirculationModel", "at", "I", false)
  | _ => ("LibraryCirculationModel", "isWrong", "Z", false)
def tyX5 : Nat → FieldType := fun k => match k with
  | 0 => .array .int
  | 1 => .array .int
  | 2 => .array .int
  | 3 => .array .int
  | 4 => .int
  | 5 => .boolean
  | 6 => .array .int
  | 7 => .array .int
  | 8 => .int
  | 9 => .int
  | _ => .boolean
theorem nmX5 : ∀ a, a < 11 → ∀ b, b < 11 → a ≠ b → (TX5 a).2.1 ≠ (TX5 b).2.1 := by decide +kernel
theorem tyX5_ok : ∀ k, k < 11 → parseFieldDescriptor (TX5 k).2.2.1 = some (tyX5 k) := by decide +kernel
abbrev cX5_init : ByteArray := prog_7_method_1_code
def yX5_init : MethodName := ⟨RX5, "<init>", "()V"⟩
abbrev cX5_in : ByteArray := prog_7_method_2_code
def yX5_in : MethodName := ⟨RX5, "in", "(III)Z"⟩
abbrev cX5_copies : ByteArray := prog_7_method_3_code
def yX5_copies : MethodName := ⟨RX5, "copies", "([II[II)V"⟩
abbrev cX5_keeps : ByteArray := prog_7_method_4_code
def yX5_keeps : MethodName := ⟨RX5, "keeps", "()V"⟩
abbrev cX5_made : ByteArray := prog_7_method_5_code
def yX5_made : MethodName := ⟨RX5, "made", "(I)I"⟩
abbrev cX5_isCopy : ByteArray := prog_7_method_6_code
def yX5_isCopy : MethodName := ⟨RX5, "isCopy", "(I)Z"⟩
abbrev cX5_isPatron : ByteArray := prog_7_method_7_code
def yX5_isPatron : MethodName := ⟨RX5, "isPatron", "(I)Z"⟩
abbrev cX5_isTitle : ByteArray := prog_7_method_8_code
def yX5_isTitle : MethodName := ⟨RX5, "isTitle", "(I)Z"⟩
abbrev cX5_isBranch : ByteArray := prog_7_method_9_code
def yX5_isBranch : MethodName := ⟨RX5, "isBranch", "(I)Z"⟩
abbrev cX5_of : ByteArray := prog_7_method_10_code
def yX5_of : MethodName := ⟨RX5, "of", "(II)I"⟩
abbrev cX5_puts : ByteArray := prog_7_method_11_code
def yX5_puts : MethodName := ⟨RX5, "puts", "(III)V"⟩
abbrev cX5_turns : ByteArray := prog_7_method_12_code
def yX5_turns : MethodName := ⟨RX5, "turns", "(IIII)V"⟩
abbrev cX5_hold : ByteArray := prog_7_method_13_code
def yX5_hold : MethodName := ⟨RX5, "hold", "(II)I"⟩
abbrev cX5_holdOf : ByteArray := prog_7_method_14_code
def yX5_holdOf : MethodName := ⟨RX5, "holdOf", "(I)I"⟩
abbrev cX5_holdBy : ByteArray := prog_7_method_15_code
def yX5_holdBy : MethodName := ⟨RX5, "holdBy", "(II)I"⟩
abbrev cX5_firstWaiting : ByteArray := prog_7_method_16_code
def yX5_firstWaiting : MethodName := ⟨RX5, "firstWaiting", "(I)I"⟩
abbrev cX5_holds : ByteArray := prog_7_method_17_code
def yX5_holds : MethodName := ⟨RX5, "holds", "(I)I"⟩
abbrev cX5_waitingFor : ByteArray := prog_7_method_18_code
def yX5_waitingFor : MethodName := ⟨RX5, "waitingFor", "(I)I"⟩
abbrev cX5_removes : ByteArray := prog_7_method_19_code
def yX5_removes : MethodName := ⟨RX5, "removes", "(I)V"⟩
abbrev cX5_assigns : ByteArray := prog_7_method_20_code
def yX5_assigns : MethodName := ⟨RX5, "assigns", "(III)V"⟩
abbrev cX5_frees : ByteArray := prog_7_method_21_code
def yX5_frees : MethodName := ⟨RX5, "frees", "(II)V"⟩
abbrev cX5_owes : ByteArray := prog_7_method_22_code
def yX5_owes : MethodName := ⟨RX5, "owes", "(IIII)V"⟩
abbrev cX5_late : ByteArray := prog_7_method_23_code
def yX5_late : MethodName := ⟨RX5, "late", "(I)I"⟩
abbrev cX5_isBarred : ByteArray := prog_7_method_24_code
def yX5_isBarred : MethodName := ⟨RX5, "isBarred", "(I)Z"⟩
abbrev cX5_loans : ByteArray := prog_7_method_25_code
def yX5_loans : MethodName := ⟨RX5, "loans", "(I)I"⟩
abbrev cX5_addCopy : ByteArray := prog_7_method_26_code
def yX5_addCopy : MethodName := ⟨RX5, "addCopy", "(II)I"⟩
abbrev cX5_addPatron : ByteArray := prog_7_method_27_code
def yX5_addPatron : MethodName := ⟨RX5, "addPatron", "()I"⟩
abbrev cX5_least : ByteArray := prog_7_method_28_code
def yX5_least : MethodName := ⟨RX5, "least", "(I)I"⟩
abbrev cX5_most : ByteArray := prog_7_method_29_code
def yX5_most : MethodName := ⟨RX5, "most", "(I)I"⟩
abbrev cX5_set : ByteArray := prog_7_method_30_code
def yX5_set : MethodName := ⟨RX5, "set", "(II)I"⟩
abbrev cX5_setting : ByteArray := prog_7_method_31_code
def yX5_setting : MethodName := ⟨RX5, "setting", "(I)I"⟩
abbrev cX5_setFloating : ByteArray := prog_7_method_32_code
def yX5_setFloating : MethodName := ⟨RX5, "setFloating", "(IZ)I"⟩
abbrev cX5_copyCount : ByteArray := prog_7_method_33_code
def yX5_copyCount : MethodName := ⟨RX5, "copyCount", "(I)I"⟩
abbrev cX5_copy : ByteArray := prog_7_method_34_code
def yX5_copy : MethodName := ⟨RX5, "copy", "(II)I"⟩
abbrev cX5_day : ByteArray := prog_7_method_35_code
def yX5_day : MethodName := ⟨RX5, "day", "()I"⟩
abbrev cX5_arrive : ByteArray := prog_7_method_36_code
def yX5_arrive : MethodName := ⟨RX5, "arrive", "()V"⟩
abbrev cX5_expire : ByteArray := prog_7_method_37_code
def yX5_expire : MethodName := ⟨RX5, "expire", "()V"⟩
abbrev cX5_loses : ByteArray := prog_7_method_38_code
def yX5_loses : MethodName := ⟨RX5, "loses", "(I)V"⟩
abbrev cX5_passes : ByteArray := prog_7_method_39_code
def yX5_passes : MethodName := ⟨RX5, "passes", "(I)I"⟩
abbrev cX5_pass : ByteArray := prog_7_method_40_code
def yX5_pass : MethodName := ⟨RX5, "pass", "(I)I"⟩
abbrev cX5_reasonToLend : ByteArray := prog_7_method_41_code
def yX5_reasonToLend : MethodName := ⟨RX5, "reasonToLend", "(II)I"⟩
abbrev cX5_lends : ByteArray := prog_7_method_42_code
def yX5_lends : MethodName := ⟨RX5, "lends", "(II)I"⟩
abbrev cX5_lend : ByteArray := prog_7_method_43_code
def yX5_lend : MethodName := ⟨RX5, "lend", "(II)I"⟩
abbrev cX5_bringsBack : ByteArray := prog_7_method_44_code
def yX5_bringsBack : MethodName := ⟨RX5, "bringsBack", "(II)I"⟩
abbrev cX5_bringBack : ByteArray := prog_7_method_45_code
def yX5_bringBack : MethodName := ⟨RX5, "bringBack", "(II)I"⟩
abbrev cX5_reasonToRenew : ByteArray := prog_7_method_46_code
def yX5_reasonToRenew : MethodName := ⟨RX5, "reasonToRenew", "(I)I"⟩
abbrev cX5_renews : ByteArray := prog_7_method_47_code
def yX5_renews : MethodName := ⟨RX5, "renews", "(I)I"⟩
abbrev cX5_renew : ByteArray := prog_7_method_48_code
def yX5_renew : MethodName := ⟨RX5, "renew", "(I)I"⟩
abbrev cX5_reasonToClaim : ByteArray := prog_7_method_49_code
def yX5_reasonToClaim : MethodName := ⟨RX5, "reasonToClaim", "(I)I"⟩
abbrev cX5_claim : ByteArray := prog_7_method_50_code
def yX5_claim : MethodName := ⟨RX5, "claim", "(I)I"⟩
abbrev cX5_reasonToLose : ByteArray := prog_7_method_51_code
def yX5_reasonToLose : MethodName := ⟨RX5, "reasonToLose", "(I)I"⟩
abbrev cX5_lose : ByteArray := prog_7_method_52_code
def yX5_lose : MethodName := ⟨RX5, "lose", "(I)I"⟩
abbrev cX5_reasonToHold : ByteArray := prog_7_method_53_code
def yX5_reasonToHold : MethodName := ⟨RX5, "reasonToHold", "(II)I"⟩
abbrev cX5_nearest : ByteArray := prog_7_method_54_code
def yX5_nearest : MethodName := ⟨RX5, "nearest", "(II)I"⟩
abbrev cX5_recalls : ByteArray := prog_7_method_55_code
def yX5_recalls : MethodName := ⟨RX5, "recalls", "(I)V"⟩
abbrev cX5_laysHold : ByteArray := prog_7_method_56_code
def yX5_laysHold : MethodName := ⟨RX5, "laysHold", "(III)I"⟩
abbrev cX5_hold_ : ByteArray := prog_7_method_57_code
def yX5_hold_ : MethodName := ⟨RX5, "hold", "(III)I"⟩
abbrev cX5_cancels : ByteArray := prog_7_method_58_code
def yX5_cancels : MethodName := ⟨RX5, "cancels", "(II)I"⟩
abbrev cX5_cancelHold : ByteArray := prog_7_method_59_code
def yX5_cancelHold : MethodName := ⟨RX5, "cancelHold", "(II)I"⟩
abbrev cX5_reason : ByteArray := prog_7_method_60_code
def yX5_reason : MethodName := ⟨RX5, "reason", "(III)I"⟩
abbrev cX5_holdCount : ByteArray := prog_7_method_61_code
def yX5_holdCount : MethodName := ⟨RX5, "holdCount", "(I)I"⟩
abbrev cX5_waiting : ByteArray := prog_7_method_62_code
def yX5_waiting : MethodName := ⟨RX5, "waiting", "(I)I"⟩
abbrev cX5_holdAt : ByteArray := prog_7_method_63_code
def yX5_holdAt : MethodName := ⟨RX5, "holdAt", "(III)I"⟩
abbrev cX5_place : ByteArray := prog_7_method_64_code
def yX5_place : MethodName := ⟨RX5, "place", "(II)I"⟩
abbrev cX5_freeDay : ByteArray := prog_7_method_65_code
def yX5_freeDay : MethodName := ⟨RX5, "freeDay", "(II)I"⟩
abbrev cX5_estimate : ByteArray := prog_7_method_66_code
def yX5_estimate : MethodName := ⟨RX5, "estimate", "(II)I"⟩
abbrev cX5_patronCount : ByteArray := prog_7_method_67_code
def yX5_patronCount : MethodName := ⟨RX5, "patronCount", "()I"⟩
abbrev cX5_owes_ : ByteArray := prog_7_method_68_code
def yX5_owes_ : MethodName := ⟨RX5, "owes", "(I)I"⟩
abbrev cX5_accrued : ByteArray := prog_7_method_69_code
def yX5_accrued : MethodName := ⟨RX5, "accrued", "(I)I"⟩
abbrev cX5_overdue : ByteArray := prog_7_method_70_code
def yX5_overdue : MethodName := ⟨RX5, "overdue", "(I)I"⟩
abbrev cX5_holdsOf : ByteArray := prog_7_method_71_code
def yX5_holdsOf : MethodName := ⟨RX5, "holdsOf", "(I)I"⟩
abbrev cX5_patron : ByteArray := prog_7_method_72_code
def yX5_patron : MethodName := ⟨RX5, "patron", "(II)I"⟩
abbrev cX5_byDate : ByteArray := prog_7_method_73_code
def yX5_byDate : MethodName := ⟨RX5, "byDate", "(III)I"⟩
abbrev cX5_loanOf : ByteArray := prog_7_method_74_code
def yX5_loanOf : MethodName := ⟨RX5, "loanOf", "(II)I"⟩
abbrev cX5_fine : ByteArray := prog_7_method_75_code
def yX5_fine : MethodName := ⟨RX5, "fine", "(I)I"⟩
abbrev cX5_lessens : ByteArray := prog_7_method_76_code
def yX5_lessens : MethodName := ⟨RX5, "lessens", "(III)I"⟩
abbrev cX5_pay : ByteArray := prog_7_method_77_code
def yX5_pay : MethodName := ⟨RX5, "pay", "(II)I"⟩
abbrev cX5_waive : ByteArray := prog_7_method_78_code
def yX5_waive : MethodName := ⟨RX5, "waive", "(II)I"⟩
abbrev cX5_ledgerSize : ByteArray := prog_7_method_79_code
def yX5_ledgerSize : MethodName := ⟨RX5, "ledgerSize", "()I"⟩
abbrev cX5_ledger : ByteArray := prog_7_method_80_code
def yX5_ledger : MethodName := ⟨RX5, "ledger", "(II)I"⟩
abbrev cX5_ledgerSum : ByteArray := prog_7_method_81_code
def yX5_ledgerSum : MethodName := ⟨RX5, "ledgerSum", "(II)I"⟩
abbrev cX5_shelf : ByteArray := prog_7_method_82_code
def yX5_shelf : MethodName := ⟨RX5, "shelf", "(II)I"⟩
abbrev cX5_arriving : ByteArray := prog_7_method_83_code
def yX5_arriving : MethodName := ⟨RX5, "arriving", "(II)I"⟩
abbrev cX5_feed : ByteArray := prog_7_method_84_code
def yX5_feed : MethodName := ⟨RX5, "feed", "(I)I"⟩
abbrev cX5_sign : ByteArray := prog_7_method_85_code
def yX5_sign : MethodName := ⟨RX5, "sign", "()I"⟩
abbrev cX5_number : ByteArray := prog_7_method_86_code
def yX5_number : MethodName := ⟨RX5, "number", "()I"⟩
abbrev cX5_command : ByteArray := prog_7_method_87_code
def yX5_command : MethodName := ⟨RX5, "command", "()I"⟩
abbrev cX5_does : ByteArray := prog_7_method_88_code
def yX5_does : MethodName := ⟨RX5, "does", "(I)I"⟩
abbrev cX5_execute : ByteArray := prog_7_method_89_code
def yX5_execute : MethodName := ⟨RX5, "execute", "()I"⟩
abbrev cX5_save : ByteArray := prog_7_method_90_code
def yX5_save : MethodName := ⟨RX5, "save", "()I"⟩
abbrev cX5_restore : ByteArray := prog_7_method_91_code
def yX5_restore : MethodName := ⟨RX5, "restore", "()I"⟩
abbrev cX5_undo : ByteArray := prog_7_method_92_code
def yX5_undo : MethodName := ⟨RX5, "undo", "()I"⟩
def RL : String := "LibraryCirculationLaw"
abbrev cL_law : ByteArray := code
def yL_law : MethodName := ⟨RL, "law", "([I)Z"⟩
abbrev vwCl : List vw_C := [(RX0, TX0, 4), (RX1, TX1, 3), (RX2, TX2, 6), (RX3, TX3, 4), (RX4, TX4, 6), (RX5, TX5, 11)]
/-- the words that a call keeps: of every method's word list -/
def wU : List Cond := lw_tbl.filter goodWord
theorem mU {w : Cond} (h : w ∈ lw_tbl) (g : goodWord w = true) : w ∈ wU := List.mem_filter.mpr ⟨h, g⟩
theorem wU_tbl {w : Cond} (h : w ∈ wU) : w ∈ lw_tbl := (List.mem_filter.mp h).1
theorem wU_good {w : Cond} (h : w ∈ wU) : goodWord w = true := (List.mem_filter.mp h).2
theorem tb0 {w : Cond} (h : w ∈ tables_1) : w ∈ lw_tbl := List.mem_append_right _ h
theorem tb1 {w : Cond} (h : w ∈ tables_1_1) : w ∈ lw_tbl := tb0 (List.mem_append_left _ h)
theorem tb2 {w : Cond} (h : w ∈ tables_1_2) : w ∈ lw_tbl := tb0 (List.mem_append_right _ (List.mem_append_left _ h))
theorem tb3 {w : Cond} (h : w ∈ tables_1_3) : w ∈ lw_tbl := tb0 (List.mem_append_right _ (List.mem_append_right _ (List.mem_append_left _ h)))
theorem tb4 {w : Cond} (h : w ∈ tables_1_4) : w ∈ lw_tbl := tb0 (List.mem_append_right _ (List.mem_append_right _ (List.mem_append_right _ (List.mem_append_left _ h))))
theorem tb5 {w : Cond} (h : w ∈ tables_1_5) : w ∈ lw_tbl := tb0 (List.mem_append_right _ (List.mem_append_right _ (List.mem_append_right _ (List.mem_append_right _ h))))
theorem mZ_RL : Cond.initialized RL ∈ wU := mU (tb1 (List.mem_of_getElem? (i := 0) (by decide +kernel))) rfl
theorem mZ_RX4 : Cond.initialized RX4 ∈ wU := mU (tb1 (List.mem_of_getElem? (i := 1) (by decide +kernel))) rfl
theorem mZ_RX2 : Cond.initialized RX2 ∈ wU := mU (tb1 (List.mem_of_getElem? (i := 2) (by decide +kernel))) rfl
theorem mZ_RX3 : Cond.initialized RX3 ∈ wU := mU (tb1 (List.mem_of_getElem? (i := 3) (by decide +kernel))) rfl
theorem mZ_java_lang_Math : Cond.initialized "java/lang/Math" ∈ wU := mU (tb1 (List.mem_of_getElem? (i := 4) (by decide +kernel))) rfl
theorem mZ_RX1 : Cond.initialized RX1 ∈ wU := mU (tb1 (List.mem_of_getElem? (i := 5) (by decide +kernel))) rfl
theorem mZ_RX0 : Cond.initialized RX0 ∈ wU := mU (tb1 (List.mem_of_getElem? (i := 6) (by decide +kernel))) rfl
theorem mZ_RX5 : Cond.initialized RX5 ∈ wU := mU (tb1 (List.mem_of_getElem? (i := 7) (by decide +kernel))) rfl
theorem mZ_java_lang_System : Cond.initialized "java/lang/System" ∈ wU := mU (tb1 (List.mem_of_getElem? (i := 8) (by decide +kernel))) rfl
theorem mN_RL_7 : Cond.classLink RL 7 RX4 ∈ wU := mU (tb1 (List.mem_of_getElem? (i := 9) (by decide +kernel))) rfl
theorem mB_RX4 : Cond.instantiable RX4 6 ∈ wU := mU (tb1 (List.mem_of_getElem? (i := 10) (by decide +kernel))) rfl
theorem mL_RL_9 : Cond.methodLink RL 9 yX4_init ∈ wU := mU (tb1 (List.mem_of_getElem? (i := 11) (by decide +kernel))) rfl
theorem mI_X4_init : Cond.instanceMethod yX4_init ∈ wU := mU (tb1 (List.mem_of_getElem? (i := 12) (by decide +kernel))) rfl
theorem mC_X4_init : Cond.code yX4_init cX4_init 1 none ∈ wU := mU (tb1 (List.mem_of_getElem? (i := 13) (by decide +kernel))) rfl
theorem mL_RX4_1 : Cond.methodLink RX4 1 objectInit ∈ wU := mU (tb1 (List.mem_of_getElem? (i := 14) (by decide +kernel))) rfl
theorem mI_Obj_init : Cond.instanceMethod objectInit ∈ wU := mU (tb1 (List.mem_of_getElem? (i := 15) (by decide +kernel))) rfl
theorem mC_Obj_init : Cond.code objectInit ⟨#[0xb1]⟩ 1 none ∈ wU := mU (tb1 (List.mem_of_getElem? (i := 16) (by decide +kernel))) rfl
theorem mN_RX4_7 : Cond.classLink RX4 7 RX2 ∈ wU := mU (tb1 (List.mem_of_getElem? (i := 17) (by decide +kernel))) rfl
theorem mB_RX2 : Cond.instantiable RX2 6 ∈ wU := mU (tb1 (List.mem_of_getElem? (i := 18) (by decide +kernel))) rfl
theorem mL_RX4_9 : Cond.methodLink RX4 9 yX2_init ∈ wU := mU (tb1 (List.mem_of_getElem? (i := 19) (by decide +kernel))) rfl
theorem mI_X2_init : Cond.instanceMethod yX2_init ∈ wU := mU (tb1 (List.mem_of_getElem? (i := 20) (by decide +kernel))) rfl
theorem mC_X2_init : Cond.code yX2_init cX2_init 2 none ∈ wU := mU (tb1 (List.mem_of_getElem? (i := 21) (by decide +kernel))) rfl
theorem mL_RX2_3 : Cond.methodLink RX2 3 objectInit ∈ wU := mU (tb1 (List.mem_of_getElem? (i := 22) (by decide +kernel))) rfl
theorem mN_RX2_9 : Cond.classLink RX2 9 RX3 ∈ wU := mU (tb1 (List.mem_of_getElem? (i := 23) (by decide +kernel))) rfl
theorem mB_RX3 : Cond.instantiable RX3 4 ∈ wU := mU (tb1 (List.mem_of_getElem? (i := 24) (by decide +kernel))) rfl
theorem mL_RX2_11 : Cond.methodLink RX2 11 yX3_init ∈ wU := mU (tb1 (List.mem_of_getElem? (i := 25) (by decide +kernel))) rfl
theorem mI_X3_init : Cond.instanceMethod yX3_init ∈ wU := mU (tb1 (List.mem_of_getElem? (i := 26) (by decide +kernel))) rfl
theorem mC_X3_init : Cond.code yX3_init cX3_init 3 none ∈ wU := mU (tb1 (List.mem_of_getElem? (i := 27) (by decide +kernel))) rfl
theorem mL_RX3_3 : Cond.methodLink RX3 3 objectInit ∈ wU := mU (tb1 (List.mem_of_getElem? (i := 28) (by decide +kernel))) rfl
theorem mL_RX3_21 : Cond.methodLink RX3 21 ⟨"java/lang/Math", "max", "(II)I"⟩ ∈ wU := mU (tb1 (List.mem_of_getElem? (i := 29) (by decide +kernel))) rfl
theorem mT_J_max_III : Cond.static ⟨"java/lang/Math", "max", "(II)I"⟩ ∈ wU := mU (tb1 (List.mem_of_getElem? (i := 30) (by decide +kernel))) rfl
theorem mC_J_max_III : Cond.code ⟨"java/lang/Math", "max", "(II)I"⟩ prog_8_method_65_code 2 (some .int) ∈ wU := mU (tb1 (List.mem_of_getElem? (i := 31) (by decide +kernel))) rfl
theorem mF_RX3_15 : Cond.fieldLink RX3 15 "LibraryCirculation$Table" "capacity" "I" ∈ wU := mU (tb1 (List.mem_of_getElem? (i := 32) (by decide +kernel))) rfl
theorem mF_RX3_18 : Cond.fieldLink RX3 18 "LibraryCirculation$Table" "columns" "I" ∈ wU := mU (tb1 (List.mem_of_getElem? (i := 33) (by decide +kernel))) rfl
theorem mF_RX3_27 : Cond.fieldLink RX3 27 "LibraryCirculation$Table" "cells" "[I" ∈ wU := mU (tb1 (List.mem_of_getElem? (i := 34) (by decide +kernel))) rfl
theorem mF_RX3_9 : Cond.fieldLink RX3 9 "LibraryCirculation$Table" "size" "I" ∈ wU := mU (tb1 (List.mem_of_getElem? (i := 35) (by decide +kernel))) rfl
theorem mAC : Cond.arrayClass .int ∈ wU := mU (tb1 (List.mem_of_getElem? (i := 45) (by decide +kernel))) rfl
theorem mFN_RX2_29 : Cond.fieldLinkNest RX2 29 "LibraryCirculation" "FIRST_VALUES" "[I" "LibraryCirculation" ∈ lw_tbl := tb1 (List.mem_of_getElem? (i := 46) (by decide +kernel))
theorem mL_RX2_40 : Cond.methodLink RX2 40 yX3_addRow ∈ wU := mU (tb1 (List.mem_of_getElem? (i := 48) (by decide +kernel))) rfl
theorem mI_X3_addRow : Cond.instanceMethod yX3_addRow ∈ wU := mU (tb1 (List.mem_of_getElem? (i := 49) (by decide +kernel))) rfl
theorem mS_X3_addRow : Cond.selects RX3 yX3_addRow yX3_addRow ∈ wU := mU (tb1 (List.mem_of_getElem? (i := 50) (by decide +kernel))) rfl
theorem mC_X3_addRow : Cond.code yX3_addRow cX3_addRow 2 (some .int) ∈ wU := mU (tb1 (List.mem_of_getElem? (i := 51) (by decide +kernel))) rfl
theorem mL_RX3_31 : Cond.methodLink RX3 31 yX3_put ∈ wU := mU (tb1 (List.mem_of_getElem? (i := 52) (by decide +kernel))) rfl
theorem mI_X3_put : Cond.instanceMethod yX3_put ∈ wU := mU (tb1 (List.mem_of_getElem? (i := 53) (by decide +kernel))) rfl
theorem mS_X3_put : Cond.selects RX3 yX3_put yX3_put ∈ wU := mU (tb1 (List.mem_of_getElem? (i := 54) (by decide +kernel))) rfl
theorem mC_X3_put : Cond.code yX3_put cX3_put 5 none ∈ wU := mU (tb1 (List.mem_of_getElem? (i := 55) (by decide +kernel))) rfl
theorem mL_RX2_44 : Cond.methodLink RX2 44 yX3_put ∈ wU := mU (tb1 (List.mem_of_getElem? (i := 56) (by decide +kernel))) rfl
theorem mF_RX2_14 : Cond.fieldLink RX2 14 "LibraryCirculation$State" "copies" "LLibraryCirculation$Table;" ∈ wU := mU (tb1 (List.mem_of_getElem? (i := 57) (by decide +kernel))) rfl
theorem mFN_RX4_47 : Cond.fieldLinkNest RX4 47 "LibraryCirculation$State" "copies" "LLibraryCirculation$Table;" "LibraryCirculation" ∈ lw_tbl := tb1 (List.mem_of_getElem? (i := 58) (by decide +kernel))
theorem mF_RX2_20 : Cond.fieldLink RX2 20 "LibraryCirculation$State" "patrons" "LLibraryCirculation$Table;" ∈ wU := mU (tb1 (List.mem_of_getElem? (i := 59) (by decide +kernel))) rfl
theorem mFN_RX4_69 : Cond.fieldLinkNest RX4 69 "LibraryCirculation$State" "patrons" "LLibraryCirculation$Table;" "LibraryCirculation" ∈ lw_tbl := tb1 (List.mem_of_getElem? (i := 60) (by decide +kernel))
theorem mF_RX2_23 : Cond.fieldLink RX2 23 "LibraryCirculation$State" "holds" "LLibraryCirculation$Table;" ∈ wU := mU (tb1 (List.mem_of_getElem? (i := 61) (by decide +kernel))) rfl
theorem mFN_RX4_192 : Cond.fieldLinkNest RX4 192 "LibraryCirculation$State" "holds" "LLibraryCirculation$Table;" "LibraryCirculation" ∈ lw_tbl := tb1 (List.mem_of_getElem? (i := 62) (by decide +kernel))
theorem mF_RX2_26 : Cond.fieldLink RX2 26 "LibraryCirculation$State" "ledger" "LLibraryCirculation$Table;" ∈ wU := mU (tb1 (List.mem_of_getElem? (i := 63) (by decide +kernel))) rfl
theorem mFN_RX4_244 : Cond.fieldLinkNest RX4 244 "LibraryCirculation$State" "ledger" "LLibraryCirculation$Table;" "LibraryCirculation" ∈ lw_tbl := tb1 (List.mem_of_getElem? (i := 64) (by decide +kernel))
theorem mF_RX2_33 : Cond.fieldLink RX2 33 "LibraryCirculation$State" "settings" "LLibraryCirculation$Table;" ∈ wU := mU (tb1 (List.mem_of_getElem? (i := 65) (by decide +kernel))) rfl
theorem mFN_RX4_72 : Cond.fieldLinkNest RX4 72 "LibraryCirculation$State" "settings" "LLibraryCirculation$Table;" "LibraryCirculation" ∈ lw_tbl := tb1 (List.mem_of_getElem? (i := 66) (by decide +kernel))
theorem mF_RX2_36 : Cond.fieldLink RX2 36 "LibraryCirculation$State" "today" "I" ∈ wU := mU (tb1 (List.mem_of_getElem? (i := 67) (by decide +kernel))) rfl
theorem mFN_RX4_98 : Cond.fieldLinkNest RX4 98 "LibraryCirculation$State" "today" "I" "LibraryCirculation" ∈ lw_tbl := tb1 (List.mem_of_getElem? (i := 68) (by decide +kernel))
theorem mN_RX4_26 : Cond.classLink RX4 26 RX1 ∈ wU := mU (tb1 (List.mem_of_getElem? (i := 82) (by decide +kernel))) rfl
theorem mB_RX1 : Cond.instantiable RX1 3 ∈ wU := mU (tb1 (List.mem_of_getElem? (i := 83) (by decide +kernel))) rfl
theorem mL_RX4_28 : Cond.methodLink RX4 28 yX1_init ∈ wU := mU (tb1 (List.mem_of_getElem? (i := 84) (by decide +kernel))) rfl
theorem mI_X1_init : Cond.instanceMethod yX1_init ∈ wU := mU (tb1 (List.mem_of_getElem? (i := 85) (by decide +kernel))) rfl
theorem mC_X1_init : Cond.code yX1_init cX1_init 2 none ∈ wU := mU (tb1 (List.mem_of_getElem? (i := 86) (by decide +kernel))) rfl
theorem mL_RX1_3 : Cond.methodLink RX1 3 objectInit ∈ wU := mU (tb1 (List.mem_of_getElem? (i := 87) (by decide +kernel))) rfl
theorem mN_RX1_9 : Cond.classLink RX1 9 RX2 ∈ wU := mU (tb1 (List.mem_of_getElem? (i := 88) (by decide +kernel))) rfl
theorem mAO : Cond.arrayOver (.object "LibraryCirculation$State") ∈ lw_tbl := tb1 (List.mem_of_getElem? (i := 89) (by decide +kernel))
theorem mL_RX1_24 : Cond.methodLink RX1 24 yX2_init ∈ wU := mU (tb1 (List.mem_of_getElem? (i := 90) (by decide +kernel))) rfl
theorem mF_RX1_11 : Cond.fieldLink RX1 11 "LibraryCirculation$History" "states" "[LLibraryCirculation$State;" ∈ wU := mU (tb1 (List.mem_of_getElem? (i := 91) (by decide +kernel))) rfl
theorem mF_RX1_17 : Cond.fieldLink RX1 17 "LibraryCirculation$History" "next" "I" ∈ wU := mU (tb1 (List.mem_of_getElem? (i := 92) (by decide +kernel))) rfl
theorem mF_RX1_21 : Cond.fieldLink RX1 21 "LibraryCirculation$History" "size" "I" ∈ wU := mU (tb1 (List.mem_of_getElem? (i := 93) (by decide +kernel))) rfl
theorem mN_RX4_33 : Cond.classLink RX4 33 RX0 ∈ wU := mU (tb1 (List.mem_of_getElem? (i := 101) (by decide +kernel))) rfl
theorem mB_RX0 : Cond.instantiable RX0 4 ∈ wU := mU (tb1 (List.mem_of_getElem? (i := 102) (by decide +kernel))) rfl
theorem mLN_RX4_35 : Cond.methodLinkNest RX4 35 yX0_init RX4 ∈ lw_tbl := tb1 (List.mem_of_getElem? (i := 103) (by decide +kernel))
theorem mI_X0_init : Cond.instanceMethod yX0_init ∈ wU := mU (tb1 (List.mem_of_getElem? (i := 104) (by decide +kernel))) rfl
theorem mC_X0_init : Cond.code yX0_init cX0_init 1 none ∈ wU := mU (tb1 (List.mem_of_getElem? (i := 105) (by decide +kernel))) rfl
theorem mL_RX0_5 : Cond.methodLink RX0 5 objectInit ∈ wU := mU (tb1 (List.mem_of_getElem? (i := 106) (by decide +kernel))) rfl
theorem mN_RX0_22 : Cond.classLink RX0 22 RX3 ∈ wU := mU (tb1 (List.mem_of_getElem? (i := 107) (by decide +kernel))) rfl
theorem mL_RX0_24 : Cond.methodLink RX0 24 yX3_init ∈ wU := mU (tb1 (List.mem_of_getElem? (i := 108) (by decide +kernel))) rfl
theorem mF_RX0_11 : Cond.fieldLink RX0 11 "LibraryCirculation$CommandText" "letters" "[I" ∈ wU := mU (tb1 (List.mem_of_getElem? (i := 109) (by decide +kernel))) rfl
theorem mF_RX0_15 : Cond.fieldLink RX0 15 "LibraryCirculation$CommandText" "length" "I" ∈ wU := mU (tb1 (List.mem_of_getElem? (i := 110) (by decide +kernel))) rfl
theorem mF_RX0_19 : Cond.fieldLink RX0 19 "LibraryCirculation$CommandText" "position" "I" ∈ wU := mU (tb1 (List.mem_of_getElem? (i := 111) (by decide +kernel))) rfl
theorem mF_RX0_27 : Cond.fieldLink RX0 27 "LibraryCirculation$CommandText" "commands" "LLibraryCirculation$Table;" ∈ wU := mU (tb1 (List.mem_of_getElem? (i := 112) (by decide +kernel))) rfl
theorem mF_RX4_10 : Cond.fieldLink RX4 10 "LibraryCirculation" "now" "LLibraryCirculation$State;" ∈ wU := mU (tb1 (List.mem_of_getElem? (i := 122) (by decide +kernel))) rfl
theorem mF_RX4_16 : Cond.fieldLink RX4 16 "LibraryCirculation" "settled" "LLibraryCirculation$State;" ∈ wU := mU (tb1 (List.mem_of_getElem? (i := 123) (by decide +kernel))) rfl
theorem mF_RX4_19 : Cond.fieldLink RX4 19 "LibraryCirculation" "saved" "LLibraryCirculation$State;" ∈ wU := mU (tb1 (List.mem_of_getElem? (i := 124) (by decide +kernel))) rfl
theorem mF_RX4_22 : Cond.fieldLink RX4 22 "LibraryCirculation" "hasSaved" "Z" ∈ wU := mU (tb1 (List.mem_of_getElem? (i := 125) (by decide +kernel))) rfl
theorem mF_RX4_29 : Cond.fieldLink RX4 29 "LibraryCirculation" "history" "LLibraryCirculation$History;" ∈ wU := mU (tb1 (List.mem_of_getElem? (i := 126) (by decide +kernel))) rfl
theorem mF_RX4_36 : Cond.fieldLink RX4 36 "LibraryCirculation" "text" "LLibraryCirculation$CommandText;" ∈ wU := mU (tb1 (List.mem_of_getElem? (i := 127) (by decide +kernel))) rfl
theorem mL_RL_13 : Cond.methodLink RL 13 yX4_addCopy ∈ wU := mU (tb1 (List.mem_of_getElem? (i := 141) (by decide +kernel))) rfl
theorem mI_X4_addCopy : Cond.instanceMethod yX4_addCopy ∈ wU := mU (tb1 (List.mem_of_getElem? (i := 142) (by decide +kernel))) rfl
theorem mS_X4_addCopy : Cond.selects RX4 yX4_addCopy yX4_addCopy ∈ wU := mU (tb1 (List.mem_of_getElem? (i := 143) (by decide +kernel))) rfl
theorem mC_X4_addCopy : Cond.code yX4_addCopy cX4_addCopy 4 (some .int) ∈ wU := mU (tb1 (List.mem_of_getElem? (i := 144) (by decide +kernel))) rfl
theorem mL_RX4_40 : Cond.methodLink RX4 40 yX4_isTitle ∈ wU := mU (tb1 (List.mem_of_getElem? (i := 145) (by decide +kernel))) rfl
theorem mT_X4_isTitle : Cond.static yX4_isTitle ∈ wU := mU (tb1 (List.mem_of_getElem? (i := 146) (by decide +kernel))) rfl
theorem mC_X4_isTitle : Cond.code yX4_isTitle cX4_isTitle 1 (some .boolean) ∈ wU := mU (tb1 (List.mem_of_getElem? (i := 147) (by decide +kernel))) rfl
theorem mL_RX4_44 : Cond.methodLink RX4 44 yX4_isBranch ∈ wU := mU (tb1 (List.mem_of_getElem? (i := 148) (by decide +kernel))) rfl
theorem mT_X4_isBranch : Cond.static yX4_isBranch ∈ wU := mU (tb1 (List.mem_of_getElem? (i := 149) (by decide +kernel))) rfl
theorem mC_X4_isBranch : Cond.code yX4_isBranch cX4_isBranch 1 (some .boolean) ∈ wU := mU (tb1 (List.mem_of_getElem? (i := 150) (by decide +kernel))) rfl
theorem mL_RX4_51 : Cond.methodLink RX4 51 yX3_addRow ∈ wU := mU (tb1 (List.mem_of_getElem? (i := 151) (by decide +kernel))) rfl
theorem mL_RX4_57 : Cond.methodLink RX4 57 yX3_put ∈ wU := mU (tb1 (List.mem_of_getElem? (i := 152) (by decide +kernel))) rfl
theorem mL_RX4_61 : Cond.methodLink RX4 61 yX4_becomeFree ∈ wU := mU (tb1 (List.mem_of_getElem? (i := 153) (by decide +kernel))) rfl
theorem mI_X4_becomeFree : Cond.instanceMethod yX4_becomeFree ∈ wU := mU (tb1 (List.mem_of_getElem? (i := 155) (by decide +kernel))) rfl
theorem mC_X4_becomeFree : Cond.code yX4_becomeFree cX4_becomeFree 6 none ∈ wU := mU (tb1 (List.mem_of_getElem? (i := 156) (by decide +kernel))) rfl
theorem mL_RX4_118 : Cond.methodLink RX4 118 yX4_titleOf ∈ wU := mU (tb1 (List.mem_of_getElem? (i := 157) (by decide +kernel))) rfl
theorem mI_X4_titleOf : Cond.instanceMethod yX4_titleOf ∈ wU := mU (tb1 (List.mem_of_getElem? (i := 159) (by decide +kernel))) rfl
theorem mC_X4_titleOf : Cond.code yX4_titleOf cX4_titleOf 2 (some .int) ∈ wU := mU (tb1 (List.mem_of_getElem? (i := 160) (by decide +kernel))) rfl
theorem mL_RX4_88 : Cond.methodLink RX4 88 yX3_get ∈ wU := mU (tb1 (List.mem_of_getElem? (i := 161) (by decide +kernel))) rfl
theorem mI_X3_get : Cond.instanceMethod yX3_get ∈ wU := mU (tb1 (List.mem_of_getElem? (i := 162) (by decide +kernel))) rfl
theorem mS_X3_get : Cond.selects RX3 yX3_get yX3_get ∈ wU := mU (tb1 (List.mem_of_getElem? (i := 163) (by decide +kernel))) rfl
theorem mC_X3_get : Cond.code yX3_get cX3_get 4 (some .int) ∈ wU := mU (tb1 (List.mem_of_getElem? (i := 164) (by decide +kernel))) rfl
theorem mL_RX4_173 : Cond.methodLink RX4 173 yX4_firstWaiting ∈ wU := mU (tb1 (List.mem_of_getElem? (i := 165) (by decide +kernel))) rfl
theorem mI_X4_firstWaiting : Cond.instanceMethod yX4_firstWaiting ∈ wU := mU (tb1 (List.mem_of_getElem? (i := 167) (by decide +kernel))) rfl
theorem mC_X4_firstWaiting : Cond.code yX4_firstWaiting cX4_firstWaiting 3 (some .int) ∈ wU := mU (tb1 (List.mem_of_getElem? (i := 168) (by decide +kernel))) rfl
theorem mL_RX4_92 : Cond.methodLink RX4 92 yX3_size ∈ wU := mU (tb1 (List.mem_of_getElem? (i := 169) (by decide +kernel))) rfl
theorem mI_X3_size : Cond.instanceMethod yX3_size ∈ wU := mU (tb1 (List.mem_of_getElem? (i := 170) (by decide +kernel))) rfl
theorem mS_X3_size : Cond.selects RX3 yX3_size yX3_size ∈ wU := mU (tb1 (List.mem_of_getElem? (i := 171) (by decide +kernel))) rfl
theorem mC_X3_size : Cond.code yX3_size cX3_size 1 (some .int) ∈ wU := mU (tb1 (List.mem_of_getElem? (i := 172) (by decide +kernel))) rfl
theorem mL_RX4_314 : Cond.methodLink RX4 314 yX4_isWaiting ∈ wU := mU (tb1 (List.mem_of_getElem? (i := 173) (by decide +kernel))) rfl
theorem mI_X4_isWaiting : Cond.instanceMethod yX4_isWaiting ∈ wU := mU (tb1 (List.mem_of_getElem? (i := 175) (by decide +kernel))) rfl
theorem mC_X4_isWaiting : Cond.code yX4_isWaiting cX4_isWaiting 3 (some .boolean) ∈ wU := mU (tb1 (List.mem_of_getElem? (i := 176) (by decide +kernel))) rfl
theorem mL_RX4_140 : Cond.methodLink RX4 140 yX4_putLoan ∈ wU := mU (tb1 (List.mem_of_getElem? (i := 177) (by decide +kernel))) rfl
theorem mI_X4_putLoan : Cond.instanceMethod yX4_putLoan ∈ wU := mU (tb1 (List.mem_of_getElem? (i := 179) (by decide +kernel))) rfl
theorem mC_X4_putLoan : Cond.code yX4_putLoan cX4_putLoan 5 none ∈ wU := mU (tb1 (List.mem_of_getElem? (i := 180) (by decide +kernel))) rfl
theorem mL_RX4_296 : Cond.methodLink RX4 296 yX4_wayBetween ∈ wU := mU (tb1 (List.mem_of_getElem? (i := 181) (by decide +kernel))) rfl
theorem mT_X4_wayBetween : Cond.static yX4_wayBetween ∈ wU := mU (tb1 (List.mem_of_getElem? (i := 182) (by decide +kernel))) rfl
theorem mC_X4_wayBetween : Cond.code yX4_wayBetween cX4_wayBetween 2 (some .int) ∈ wU := mU (tb1 (List.mem_of_getElem? (i := 183) (by decide +kernel))) rfl
theorem mL_RX4_299 : Cond.methodLink RX4 299 ⟨"java/lang/Math", "abs", "(I)I"⟩ ∈ wU := mU (tb1 (List.mem_of_getElem? (i := 184) (by decide +kernel))) rfl
theorem mT_J_abs_II : Cond.static ⟨"java/lang/Math", "abs", "(I)I"⟩ ∈ wU := mU (tb1 (List.mem_of_getElem? (i := 185) (by decide +kernel))) rfl
theorem mC_J_abs_II : Cond.code ⟨"java/lang/Math", "abs", "(I)I"⟩ prog_8_method_59_code 1 (some .int) ∈ wU := mU (tb1 (List.mem_of_getElem? (i := 186) (by decide +kernel))) rfl
theorem mL_RX4_114 : Cond.methodLink RX4 114 yX4_putCopy ∈ wU := mU (tb1 (List.mem_of_getElem? (i := 187) (by decide +kernel))) rfl
theorem mI_X4_putCopy : Cond.instanceMethod yX4_putCopy ∈ wU := mU (tb1 (List.mem_of_getElem? (i := 189) (by decide +kernel))) rfl
theorem mC_X4_putCopy : Cond.code yX4_putCopy cX4_putCopy 5 none ∈ wU := mU (tb1 (List.mem_of_getElem? (i := 190) (by decide +kernel))) rfl
theorem mL_RX4_82 : Cond.methodLink RX4 82 yX4_valueOf ∈ wU := mU (tb1 (List.mem_of_getElem? (i := 191) (by decide +kernel))) rfl
theorem mI_X4_valueOf : Cond.instanceMethod yX4_valueOf ∈ wU := mU (tb1 (List.mem_of_getElem? (i := 193) (by decide +kernel))) rfl
theorem mC_X4_valueOf : Cond.code yX4_valueOf cX4_valueOf 2 (some .int) ∈ wU := mU (tb1 (List.mem_of_getElem? (i := 194) (by decide +kernel))) rfl
theorem mL_RX4_65 : Cond.methodLink RX4 65 yX4_settle ∈ wU := mU (tb1 (List.mem_of_getElem? (i := 195) (by decide +kernel))) rfl
theorem mI_X4_settle : Cond.instanceMethod yX4_settle ∈ wU := mU (tb1 (List.mem_of_getElem? (i := 197) (by decide +kernel))) rfl
theorem mC_X4_settle : Cond.code yX4_settle cX4_settle 2 (some .int) ∈ wU := mU (tb1 (List.mem_of_getElem? (i := 198) (by decide +kernel))) rfl
theorem mL_RX4_182 : Cond.methodLink RX4 182 yX4_commit ∈ wU := mU (tb1 (List.mem_of_getElem? (i := 199) (by decide +kernel))) rfl
theorem mI_X4_commit : Cond.instanceMethod yX4_commit ∈ wU := mU (tb1 (List.mem_of_getElem? (i := 201) (by decide +kernel))) rfl
theorem mC_X4_commit : Cond.code yX4_commit cX4_commit 1 none ∈ wU := mU (tb1 (List.mem_of_getElem? (i := 202) (by decide +kernel))) rfl
theorem mL_RX4_286 : Cond.methodLink RX4 286 yX1_push ∈ wU := mU (tb1 (List.mem_of_getElem? (i := 203) (by decide +kernel))) rfl
theorem mI_X1_push : Cond.instanceMethod yX1_push ∈ wU := mU (tb1 (List.mem_of_getElem? (i := 204) (by decide +kernel))) rfl
theorem mS_X1_push : Cond.selects RX1 yX1_push yX1_push ∈ wU := mU (tb1 (List.mem_of_getElem? (i := 205) (by decide +kernel))) rfl
theorem mC_X1_push : Cond.code yX1_push cX1_push 3 none ∈ wU := mU (tb1 (List.mem_of_getElem? (i := 206) (by decide +kernel))) rfl
theorem mL_RX1_25 : Cond.methodLink RX1 25 yX1_at ∈ wU := mU (tb1 (List.mem_of_getElem? (i := 207) (by decide +kernel))) rfl
theorem mI_X1_at : Cond.instanceMethod yX1_at ∈ wU := mU (tb1 (List.mem_of_getElem? (i := 209) (by decide +kernel))) rfl
theorem mC_X1_at : Cond.code yX1_at cX1_at 2 (some (.object "LibraryCirculation$State")) ∈ wU := mU (tb1 (List.mem_of_getElem? (i := 210) (by decide +kernel))) rfl
theorem mL_RX1_29 : Cond.methodLink RX1 29 yX2_copyFrom ∈ wU := mU (tb1 (List.mem_of_getElem? (i := 211) (by decide +kernel))) rfl
theorem mI_X2_copyFrom : Cond.instanceMethod yX2_copyFrom ∈ wU := mU (tb1 (List.mem_of_getElem? (i := 212) (by decide +kernel))) rfl
theorem mS_X2_copyFrom : Cond.selects RX2 yX2_copyFrom yX2_copyFrom ∈ wU := mU (tb1 (List.mem_of_getElem? (i := 213) (by decide +kernel))) rfl
theorem mC_X2_copyFrom : Cond.code yX2_copyFrom cX2_copyFrom 2 none ∈ wU := mU (tb1 (List.mem_of_getElem? (i := 214) (by decide +kernel))) rfl
theorem mL_RX2_48 : Cond.methodLink RX2 48 yX3_overwriteWith ∈ wU := mU (tb1 (List.mem_of_getElem? (i := 215) (by decide +kernel))) rfl
theorem mI_X3_overwriteWith : Cond.instanceMethod yX3_overwriteWith ∈ wU := mU (tb1 (List.mem_of_getElem? (i := 216) (by decide +kernel))) rfl
theorem mS_X3_overwriteWith : Cond.selects RX3 yX3_overwriteWith yX3_overwriteWith ∈ wU := mU (tb1 (List.mem_of_getElem? (i := 217) (by decide +kernel))) rfl
theorem mC_X3_overwriteWith : Cond.code yX3_overwriteWith cX3_overwriteWith 2 none ∈ wU := mU (tb1 (List.mem_of_getElem? (i := 218) (by decide +kernel))) rfl
theorem mL_RX3_42 : Cond.methodLink RX3 42 ⟨"java/lang/Math", "min", "(II)I"⟩ ∈ wU := mU (tb1 (List.mem_of_getElem? (i := 219) (by decide +kernel))) rfl
theorem mT_J_min_III : Cond.static ⟨"java/lang/Math", "min", "(II)I"⟩ ∈ wU := mU (tb1 (List.mem_of_getElem? (i := 220) (by decide +kernel))) rfl
theorem mC_J_min_III : Cond.code ⟨"java/lang/Math", "min", "(II)I"⟩ prog_8_method_69_code 2 (some .int) ∈ wU := mU (tb1 (List.mem_of_getElem? (i := 221) (by decide +kernel))) rfl
theorem mL_RX3_45 : Cond.methodLink RX3 45 arraycopyName ∈ wU := mU (tb1 (List.mem_of_getElem? (i := 222) (by decide +kernel))) rfl
theorem mT_arraycopy : Cond.static arraycopyName ∈ wU := mU (tb1 (List.mem_of_getElem? (i := 223) (by decide +kernel))) rfl
theorem mV_arraycopy : Cond.native arraycopyName ∈ wU := mU (tb1 (List.mem_of_getElem? (i := 224) (by decide +kernel))) rfl
theorem mL_RX1_33 : Cond.methodLink RX1 33 ⟨"java/lang/Math", "min", "(II)I"⟩ ∈ wU := mU (tb1 (List.mem_of_getElem? (i := 225) (by decide +kernel))) rfl
theorem mL_RX4_269 : Cond.methodLink RX4 269 yX2_copyFrom ∈ wU := mU (tb1 (List.mem_of_getElem? (i := 226) (by decide +kernel))) rfl
theorem mL_RL_18 : Cond.methodLink RL 18 yX4_addPatron ∈ wU := mU (tb1 (List.mem_of_getElem? (i := 227) (by decide +kernel))) rfl
theorem mI_X4_addPatron : Cond.instanceMethod yX4_addPatron ∈ wU := mU (tb1 (List.mem_of_getElem? (i := 228) (by decide +kernel))) rfl
theorem mS_X4_addPatron : Cond.selects RX4 yX4_addPatron yX4_addPatron ∈ wU := mU (tb1 (List.mem_of_getElem? (i := 229) (by decide +kernel))) rfl
theorem mC_X4_addPatron : Cond.code yX4_addPatron cX4_addPatron 2 (some .int) ∈ wU := mU (tb1 (List.mem_of_getElem? (i := 230) (by decide +kernel))) rfl
theorem mL_RL_23 : Cond.methodLink RL 23 yX4_set ∈ wU := mU (tb1 (List.mem_of_getElem? (i := 231) (by decide +kernel))) rfl
theorem mI_X4_set : Cond.instanceMethod yX4_set ∈ wU := mU (tb1 (List.mem_of_getElem? (i := 232) (by decide +kernel))) rfl
theorem mS_X4_set : Cond.selects RX4 yX4_set yX4_set ∈ wU := mU (tb1 (List.mem_of_getElem? (i := 233) (by decide +kernel))) rfl
theorem mC_X4_set : Cond.code yX4_set cX4_set 4 (some .int) ∈ wU := mU (tb1 (List.mem_of_getElem? (i := 234) (by decide +kernel))) rfl
theorem mL_RX4_75 : Cond.methodLink RX4 75 yX3_has ∈ wU := mU (tb1 (List.mem_of_getElem? (i := 235) (by decide +kernel))) rfl
theorem mI_X3_has : Cond.instanceMethod yX3_has ∈ wU := mU (tb1 (List.mem_of_getElem? (i := 236) (by decide +kernel))) rfl
theorem mS_X3_has : Cond.selects RX3 yX3_has yX3_has ∈ wU := mU (tb1 (List.mem_of_getElem? (i := 237) (by decide +kernel))) rfl
theorem mC_X3_has : Cond.code yX3_has cX3_has 2 (some .boolean) ∈ wU := mU (tb1 (List.mem_of_getElem? (i := 238) (by decide +kernel))) rfl
theorem mL_RX4_78 : Cond.methodLink RX4 78 yX4_isInRange ∈ wU := mU (tb1 (List.mem_of_getElem? (i := 239) (by decide +kernel))) rfl
theorem mT_X4_isInRange : Cond.static yX4_isInRange ∈ wU := mU (tb2 (List.mem_of_getElem? (i := 0) (by decide +kernel))) rfl
theorem mC_X4_isInRange : Cond.code yX4_isInRange cX4_isInRange 2 (some .boolean) ∈ wU := mU (tb2 (List.mem_of_getElem? (i := 1) (by decide +kernel))) rfl
theorem mF_RX4_289 : Cond.fieldLink RX4 289 "LibraryCirculation" "LOWEST_VALUES" "[I" ∈ wU := mU (tb2 (List.mem_of_getElem? (i := 2) (by decide +kernel))) rfl
theorem mF_RX4_293 : Cond.fieldLink RX4 293 "LibraryCirculation" "HIGHEST_VALUES" "[I" ∈ wU := mU (tb2 (List.mem_of_getElem? (i := 4) (by decide +kernel))) rfl
theorem mL_RL_27 : Cond.methodLink RL 27 yX4_setting ∈ wU := mU (tb2 (List.mem_of_getElem? (i := 6) (by decide +kernel))) rfl
theorem mI_X4_setting : Cond.instanceMethod yX4_setting ∈ wU := mU (tb2 (List.mem_of_getElem? (i := 7) (by decide +kernel))) rfl
theorem mS_X4_setting : Cond.selects RX4 yX4_setting yX4_setting ∈ wU := mU (tb2 (List.mem_of_getElem? (i := 8) (by decide +kernel))) rfl
theorem mC_X4_setting : Cond.code yX4_setting cX4_setting 2 (some .int) ∈ wU := mU (tb2 (List.mem_of_getElem? (i := 9) (by decide +kernel))) rfl
theorem mL_RL_32 : Cond.methodLink RL 32 yX4_setFloating ∈ wU := mU (tb2 (List.mem_of_getElem? (i := 10) (by decide +kernel))) rfl
theorem mI_X4_setFloating : Cond.instanceMethod yX4_setFloating ∈ wU := mU (tb2 (List.mem_of_getElem? (i := 11) (by decide +kernel))) rfl
theorem mS_X4_setFloating : Cond.selects RX4 yX4_setFloating yX4_setFloating ∈ wU := mU (tb2 (List.mem_of_getElem? (i := 12) (by decide +kernel))) rfl
theorem mC_X4_setFloating : Cond.code yX4_setFloating cX4_setFloating 4 (some .int) ∈ wU := mU (tb2 (List.mem_of_getElem? (i := 13) (by decide +kernel))) rfl
theorem mL_RX4_85 : Cond.methodLink RX4 85 yX4_isCopy ∈ wU := mU (tb2 (List.mem_of_getElem? (i := 14) (by decide +kernel))) rfl
theorem mI_X4_isCopy : Cond.instanceMethod yX4_isCopy ∈ wU := mU (tb2 (List.mem_of_getElem? (i := 16) (by decide +kernel))) rfl
theorem mC_X4_isCopy : Cond.code yX4_isCopy cX4_isCopy 2 (some .boolean) ∈ wU := mU (tb2 (List.mem_of_getElem? (i := 17) (by decide +kernel))) rfl
theorem mL_RL_37 : Cond.methodLink RL 37 yX4_copyCount ∈ wU := mU (tb2 (List.mem_of_getElem? (i := 18) (by decide +kernel))) rfl
theorem mI_X4_copyCount : Cond.instanceMethod yX4_copyCount ∈ wU := mU (tb2 (List.mem_of_getElem? (i := 19) (by decide +kernel))) rfl
theorem mS_X4_copyCount : Cond.selects RX4 yX4_copyCount yX4_copyCount ∈ wU := mU (tb2 (List.mem_of_getElem? (i := 20) (by decide +kernel))) rfl
theorem mC_X4_copyCount : Cond.code yX4_copyCount cX4_copyCount 4 (some .int) ∈ wU := mU (tb2 (List.mem_of_getElem? (i := 21) (by decide +kernel))) rfl
theorem mL_RX4_95 : Cond.methodLink RX4 95 yX4_stateOf ∈ wU := mU (tb2 (List.mem_of_getElem? (i := 22) (by decide +kernel))) rfl
theorem mI_X4_stateOf : Cond.instanceMethod yX4_stateOf ∈ wU := mU (tb2 (List.mem_of_getElem? (i := 24) (by decide +kernel))) rfl
theorem mC_X4_stateOf : Cond.code yX4_stateOf cX4_stateOf 2 (some .int) ∈ wU := mU (tb2 (List.mem_of_getElem? (i := 25) (by decide +kernel))) rfl
theorem mL_RL_41 : Cond.methodLink RL 41 yX4_copy ∈ wU := mU (tb2 (List.mem_of_getElem? (i := 26) (by decide +kernel))) rfl
theorem mI_X4_copy : Cond.instanceMethod yX4_copy ∈ wU := mU (tb2 (List.mem_of_getElem? (i := 27) (by decide +kernel))) rfl
theorem mS_X4_copy : Cond.selects RX4 yX4_copy yX4_copy ∈ wU := mU (tb2 (List.mem_of_getElem? (i := 28) (by decide +kernel))) rfl
theorem mC_X4_copy : Cond.code yX4_copy cX4_copy 3 (some .int) ∈ wU := mU (tb2 (List.mem_of_getElem? (i := 29) (by decide +kernel))) rfl
theorem mL_RL_45 : Cond.methodLink RL 45 yX4_day ∈ wU := mU (tb2 (List.mem_of_getElem? (i := 30) (by decide +kernel))) rfl
theorem mI_X4_day : Cond.instanceMethod yX4_day ∈ wU := mU (tb2 (List.mem_of_getElem? (i := 31) (by decide +kernel))) rfl
theorem mS_X4_day : Cond.selects RX4 yX4_day yX4_day ∈ wU := mU (tb2 (List.mem_of_getElem? (i := 32) (by decide +kernel))) rfl
theorem mC_X4_day : Cond.code yX4_day cX4_day 1 (some .int) ∈ wU := mU (tb2 (List.mem_of_getElem? (i := 33) (by decide +kernel))) rfl
theorem mL_RL_49 : Cond.methodLink RL 49 yX4_pass ∈ wU := mU (tb2 (List.mem_of_getElem? (i := 34) (by decide +kernel))) rfl
theorem mI_X4_pass : Cond.instanceMethod yX4_pass ∈ wU := mU (tb2 (List.mem_of_getElem? (i := 35) (by decide +kernel))) rfl
theorem mS_X4_pass : Cond.selects RX4 yX4_pass yX4_pass ∈ wU := mU (tb2 (List.mem_of_getElem? (i := 36) (by decide +kernel))) rfl
theorem mC_X4_pass : Cond.code yX4_pass cX4_pass 2 (some .int) ∈ wU := mU (tb2 (List.mem_of_getElem? (i := 37) (by decide +kernel))) rfl
theorem mL_RX4_102 : Cond.methodLink RX4 102 yX4_letPass ∈ wU := mU (tb2 (List.mem_of_getElem? (i := 38) (by decide +kernel))) rfl
theorem mI_X4_letPass : Cond.instanceMethod yX4_letPass ∈ wU := mU (tb2 (List.mem_of_getElem? (i := 40) (by decide +kernel))) rfl
theorem mC_X4_letPass : Cond.code yX4_letPass cX4_letPass 3 (some .int) ∈ wU := mU (tb2 (List.mem_of_getElem? (i := 41) (by decide +kernel))) rfl
theorem mL_RX4_105 : Cond.methodLink RX4 105 yX4_arriveOnThisDay ∈ wU := mU (tb2 (List.mem_of_getElem? (i := 42) (by decide +kernel))) rfl
theorem mI_X4_arriveOnThisDay : Cond.instanceMethod yX4_arriveOnThisDay ∈ wU := mU (tb2 (List.mem_of_getElem? (i := 44) (by decide +kernel))) rfl
theorem mC_X4_arriveOnThisDay : Cond.code yX4_arriveOnThisDay cX4_arriveOnThisDay 3 none ∈ wU := mU (tb2 (List.mem_of_getElem? (i := 45) (by decide +kernel))) rfl
theorem mL_RX4_108 : Cond.methodLink RX4 108 yX4_expireBeforeThisDay ∈ wU := mU (tb2 (List.mem_of_getElem? (i := 46) (by decide +kernel))) rfl
theorem mI_X4_expireBeforeThisDay : Cond.instanceMethod yX4_expireBeforeThisDay ∈ wU := mU (tb2 (List.mem_of_getElem? (i := 48) (by decide +kernel))) rfl
theorem mC_X4_expireBeforeThisDay : Cond.code yX4_expireBeforeThisDay cX4_expireBeforeThisDay 2 none ∈ wU := mU (tb2 (List.mem_of_getElem? (i := 49) (by decide +kernel))) rfl
theorem mL_RX4_121 : Cond.methodLink RX4 121 yX4_findHold ∈ wU := mU (tb2 (List.mem_of_getElem? (i := 50) (by decide +kernel))) rfl
theorem mI_X4_findHold : Cond.instanceMethod yX4_findHold ∈ wU := mU (tb2 (List.mem_of_getElem? (i := 52) (by decide +kernel))) rfl
theorem mC_X4_findHold : Cond.code yX4_findHold cX4_findHold 4 (some .int) ∈ wU := mU (tb2 (List.mem_of_getElem? (i := 53) (by decide +kernel))) rfl
theorem mL_RX4_124 : Cond.methodLink RX4 124 yX4_removeHold ∈ wU := mU (tb2 (List.mem_of_getElem? (i := 54) (by decide +kernel))) rfl
theorem mI_X4_removeHold : Cond.instanceMethod yX4_removeHold ∈ wU := mU (tb2 (List.mem_of_getElem? (i := 56) (by decide +kernel))) rfl
theorem mC_X4_removeHold : Cond.code yX4_removeHold cX4_removeHold 3 none ∈ wU := mU (tb2 (List.mem_of_getElem? (i := 57) (by decide +kernel))) rfl
theorem mL_RX4_311 : Cond.methodLink RX4 311 yX3_removeRow ∈ wU := mU (tb2 (List.mem_of_getElem? (i := 58) (by decide +kernel))) rfl
theorem mI_X3_removeRow : Cond.instanceMethod yX3_removeRow ∈ wU := mU (tb2 (List.mem_of_getElem? (i := 59) (by decide +kernel))) rfl
theorem mS_X3_removeRow : Cond.selects RX3 yX3_removeRow yX3_removeRow ∈ wU := mU (tb2 (List.mem_of_getElem? (i := 60) (by decide +kernel))) rfl
theorem mC_X3_removeRow : Cond.code yX3_removeRow cX3_removeRow 4 none ∈ wU := mU (tb2 (List.mem_of_getElem? (i := 61) (by decide +kernel))) rfl
theorem mL_RX3_35 : Cond.methodLink RX3 35 yX3_has ∈ wU := mU (tb2 (List.mem_of_getElem? (i := 62) (by decide +kernel))) rfl
theorem mL_RX3_39 : Cond.methodLink RX3 39 yX3_get ∈ wU := mU (tb2 (List.mem_of_getElem? (i := 63) (by decide +kernel))) rfl
theorem mL_RX4_111 : Cond.methodLink RX4 111 yX4_endClaims ∈ wU := mU (tb2 (List.mem_of_getElem? (i := 64) (by decide +kernel))) rfl
theorem mI_X4_endClaims : Cond.instanceMethod yX4_endClaims ∈ wU := mU (tb2 (List.mem_of_getElem? (i := 66) (by decide +kernel))) rfl
theorem mC_X4_endClaims : Cond.code yX4_endClaims cX4_endClaims 2 none ∈ wU := mU (tb2 (List.mem_of_getElem? (i := 67) (by decide +kernel))) rfl
theorem mL_RX4_128 : Cond.methodLink RX4 128 yX4_becomeLost ∈ wU := mU (tb2 (List.mem_of_getElem? (i := 68) (by decide +kernel))) rfl
theorem mI_X4_becomeLost : Cond.instanceMethod yX4_becomeLost ∈ wU := mU (tb2 (List.mem_of_getElem? (i := 70) (by decide +kernel))) rfl
theorem mC_X4_becomeLost : Cond.code yX4_becomeLost cX4_becomeLost 4 none ∈ wU := mU (tb2 (List.mem_of_getElem? (i := 71) (by decide +kernel))) rfl
theorem mL_RX4_161 : Cond.methodLink RX4 161 yX4_fineOf ∈ wU := mU (tb2 (List.mem_of_getElem? (i := 72) (by decide +kernel))) rfl
theorem mI_X4_fineOf : Cond.instanceMethod yX4_fineOf ∈ wU := mU (tb2 (List.mem_of_getElem? (i := 74) (by decide +kernel))) rfl
theorem mC_X4_fineOf : Cond.code yX4_fineOf cX4_fineOf 4 (some .int) ∈ wU := mU (tb2 (List.mem_of_getElem? (i := 75) (by decide +kernel))) rfl
theorem mL_RX4_317 : Cond.methodLink RX4 317 ⟨"java/lang/Math", "min", "(JJ)J"⟩ ∈ wU := mU (tb2 (List.mem_of_getElem? (i := 76) (by decide +kernel))) rfl
theorem mT_J_min_JJJ : Cond.static ⟨"java/lang/Math", "min", "(JJ)J"⟩ ∈ wU := mU (tb2 (List.mem_of_getElem? (i := 77) (by decide +kernel))) rfl
theorem mC_J_min_JJJ : Cond.code ⟨"java/lang/Math", "min", "(JJ)J"⟩ prog_8_method_70_code 4 (some .long) ∈ wU := mU (tb2 (List.mem_of_getElem? (i := 78) (by decide +kernel))) rfl
theorem mL_RX4_164 : Cond.methodLink RX4 164 yX4_enter ∈ wU := mU (tb2 (List.mem_of_getElem? (i := 79) (by decide +kernel))) rfl
theorem mI_X4_enter : Cond.instanceMethod yX4_enter ∈ wU := mU (tb2 (List.mem_of_getElem? (i := 81) (by decide +kernel))) rfl
theorem mC_X4_enter : Cond.code yX4_enter cX4_enter 7 none ∈ wU := mU (tb2 (List.mem_of_getElem? (i := 82) (by decide +kernel))) rfl
theorem mL_RL_53 : Cond.methodLink RL 53 yX4_lend ∈ wU := mU (tb2 (List.mem_of_getElem? (i := 83) (by decide +kernel))) rfl
theorem mI_X4_lend : Cond.instanceMethod yX4_lend ∈ wU := mU (tb2 (List.mem_of_getElem? (i := 84) (by decide +kernel))) rfl
theorem mS_X4_lend : Cond.selects RX4 yX4_lend yX4_lend ∈ wU := mU (tb2 (List.mem_of_getElem? (i := 85) (by decide +kernel))) rfl
theorem mC_X4_lend : Cond.code yX4_lend cX4_lend 3 (some .int) ∈ wU := mU (tb2 (List.mem_of_getElem? (i := 86) (by decide +kernel))) rfl
theorem mL_RX4_131 : Cond.methodLink RX4 131 yX4_lendOut ∈ wU := mU (tb2 (List.mem_of_getElem? (i := 87) (by decide +kernel))) rfl
theorem mI_X4_lendOut : Cond.instanceMethod yX4_lendOut ∈ wU := mU (tb2 (List.mem_of_getElem? (i := 89) (by decide +kernel))) rfl
theorem mC_X4_lendOut : Cond.code yX4_lendOut cX4_lendOut 5 (some .int) ∈ wU := mU (tb2 (List.mem_of_getElem? (i := 90) (by decide +kernel))) rfl
theorem mL_RX4_134 : Cond.methodLink RX4 134 yX4_reasonAgainstLending ∈ wU := mU (tb2 (List.mem_of_getElem? (i := 91) (by decide +kernel))) rfl
theorem mI_X4_reasonAgainstLending : Cond.instanceMethod yX4_reasonAgainstLending ∈ wU := mU (tb2 (List.mem_of_getElem? (i := 93) (by decide +kernel))) rfl
theorem mC_X4_reasonAgainstLending : Cond.code yX4_reasonAgainstLending cX4_reasonAgainstLending 3 (some .int) ∈ wU := mU (tb2 (List.mem_of_getElem? (i := 94) (by decide +kernel))) rfl
theorem mL_RX4_143 : Cond.methodLink RX4 143 yX4_isPatron ∈ wU := mU (tb2 (List.mem_of_getElem? (i := 95) (by decide +kernel))) rfl
theorem mI_X4_isPatron : Cond.instanceMethod yX4_isPatron ∈ wU := mU (tb2 (List.mem_of_getElem? (i := 97) (by decide +kernel))) rfl
theorem mC_X4_isPatron : Cond.code yX4_isPatron cX4_isPatron 2 (some .boolean) ∈ wU := mU (tb2 (List.mem_of_getElem? (i := 98) (by decide +kernel))) rfl
theorem mL_RX4_146 : Cond.methodLink RX4 146 yX4_owesTheLimit ∈ wU := mU (tb2 (List.mem_of_getElem? (i := 99) (by decide +kernel))) rfl
theorem mI_X4_owesTheLimit : Cond.instanceMethod yX4_owesTheLimit ∈ wU := mU (tb2 (List.mem_of_getElem? (i := 101) (by decide +kernel))) rfl
theorem mC_X4_owesTheLimit : Cond.code yX4_owesTheLimit cX4_owesTheLimit 2 (some .boolean) ∈ wU := mU (tb2 (List.mem_of_getElem? (i := 102) (by decide +kernel))) rfl
theorem mL_RX4_149 : Cond.methodLink RX4 149 yX4_loanCount ∈ wU := mU (tb2 (List.mem_of_getElem? (i := 103) (by decide +kernel))) rfl
theorem mI_X4_loanCount : Cond.instanceMethod yX4_loanCount ∈ wU := mU (tb2 (List.mem_of_getElem? (i := 105) (by decide +kernel))) rfl
theorem mC_X4_loanCount : Cond.code yX4_loanCount cX4_loanCount 4 (some .int) ∈ wU := mU (tb2 (List.mem_of_getElem? (i := 106) (by decide +kernel))) rfl
theorem mL_RX4_231 : Cond.methodLink RX4 231 yX4_isAt ∈ wU := mU (tb2 (List.mem_of_getElem? (i := 107) (by decide +kernel))) rfl
theorem mI_X4_isAt : Cond.instanceMethod yX4_isAt ∈ wU := mU (tb2 (List.mem_of_getElem? (i := 109) (by decide +kernel))) rfl
theorem mC_X4_isAt : Cond.code yX4_isAt cX4_isAt 4 (some .boolean) ∈ wU := mU (tb2 (List.mem_of_getElem? (i := 110) (by decide +kernel))) rfl
theorem mL_RX4_152 : Cond.methodLink RX4 152 yX4_canBeTakenBy ∈ wU := mU (tb2 (List.mem_of_getElem? (i := 111) (by decide +kernel))) rfl
theorem mI_X4_canBeTakenBy : Cond.instanceMethod yX4_canBeTakenBy ∈ wU := mU (tb2 (List.mem_of_getElem? (i := 113) (by decide +kernel))) rfl
theorem mC_X4_canBeTakenBy : Cond.code yX4_canBeTakenBy cX4_canBeTakenBy 4 (some .boolean) ∈ wU := mU (tb2 (List.mem_of_getElem? (i := 114) (by decide +kernel))) rfl
theorem mL_RX4_137 : Cond.methodLink RX4 137 yX4_refusal ∈ wU := mU (tb2 (List.mem_of_getElem? (i := 115) (by decide +kernel))) rfl
theorem mT_X4_refusal : Cond.static yX4_refusal ∈ wU := mU (tb2 (List.mem_of_getElem? (i := 116) (by decide +kernel))) rfl
theorem mC_X4_refusal : Cond.code yX4_refusal cX4_refusal 1 (some .int) ∈ wU := mU (tb2 (List.mem_of_getElem? (i := 117) (by decide +kernel))) rfl
theorem mL_RL_57 : Cond.methodLink RL 57 yX4_bringBack ∈ wU := mU (tb2 (List.mem_of_getElem? (i := 118) (by decide +kernel))) rfl
theorem mI_X4_bringBack : Cond.instanceMethod yX4_bringBack ∈ wU := mU (tb2 (List.mem_of_getElem? (i := 119) (by decide +kernel))) rfl
theorem mS_X4_bringBack : Cond.selects RX4 yX4_bringBack yX4_bringBack ∈ wU := mU (tb2 (List.mem_of_getElem? (i := 120) (by decide +kernel))) rfl
theorem mC_X4_bringBack : Cond.code yX4_bringBack cX4_bringBack 3 (some .int) ∈ wU := mU (tb2 (List.mem_of_getElem? (i := 121) (by decide +kernel))) rfl
theorem mL_RX4_155 : Cond.methodLink RX4 155 yX4_takeBack ∈ wU := mU (tb2 (List.mem_of_getElem? (i := 122) (by decide +kernel))) rfl
theorem mI_X4_takeBack : Cond.instanceMethod yX4_takeBack ∈ wU := mU (tb2 (List.mem_of_getElem? (i := 124) (by decide +kernel))) rfl
theorem mC_X4_takeBack : Cond.code yX4_takeBack cX4_takeBack 6 (some .int) ∈ wU := mU (tb2 (List.mem_of_getElem? (i := 125) (by decide +kernel))) rfl
theorem mL_RX4_158 : Cond.methodLink RX4 158 yX4_isWithPatron ∈ wU := mU (tb2 (List.mem_of_getElem? (i := 126) (by decide +kernel))) rfl
theorem mI_X4_isWithPatron : Cond.instanceMethod yX4_isWithPatron ∈ wU := mU (tb2 (List.mem_of_getElem? (i := 128) (by decide +kernel))) rfl
theorem mC_X4_isWithPatron : Cond.code yX4_isWithPatron cX4_isWithPatron 3 (some .boolean) ∈ wU := mU (tb2 (List.mem_of_getElem? (i := 129) (by decide +kernel))) rfl
theorem mL_RL_61 : Cond.methodLink RL 61 yX4_renew ∈ wU := mU (tb2 (List.mem_of_getElem? (i := 130) (by decide +kernel))) rfl
theorem mI_X4_renew : Cond.instanceMethod yX4_renew ∈ wU := mU (tb2 (List.mem_of_getElem? (i := 131) (by decide +kernel))) rfl
theorem mS_X4_renew : Cond.selects RX4 yX4_renew yX4_renew ∈ wU := mU (tb2 (List.mem_of_getElem? (i := 132) (by decide +kernel))) rfl
theorem mC_X4_renew : Cond.code yX4_renew cX4_renew 2 (some .int) ∈ wU := mU (tb2 (List.mem_of_getElem? (i := 133) (by decide +kernel))) rfl
theorem mL_RX4_167 : Cond.methodLink RX4 167 yX4_renewLoan ∈ wU := mU (tb2 (List.mem_of_getElem? (i := 134) (by decide +kernel))) rfl
theorem mI_X4_renewLoan : Cond.instanceMethod yX4_renewLoan ∈ wU := mU (tb2 (List.mem_of_getElem? (i := 136) (by decide +kernel))) rfl
theorem mC_X4_renewLoan : Cond.code yX4_renewLoan cX4_renewLoan 4 (some .int) ∈ wU := mU (tb2 (List.mem_of_getElem? (i := 137) (by decide +kernel))) rfl
theorem mL_RX4_170 : Cond.methodLink RX4 170 yX4_reasonAgainstRenewing ∈ wU := mU (tb2 (List.mem_of_getElem? (i := 138) (by decide +kernel))) rfl
theorem mI_X4_reasonAgainstRenewing : Cond.instanceMethod yX4_reasonAgainstRenewing ∈ wU := mU (tb2 (List.mem_of_getElem? (i := 140) (by decide +kernel))) rfl
theorem mC_X4_reasonAgainstRenewing : Cond.code yX4_reasonAgainstRenewing cX4_reasonAgainstRenewing 2 (some .int) ∈ wU := mU (tb2 (List.mem_of_getElem? (i := 141) (by decide +kernel))) rfl
theorem mL_RL_65 : Cond.methodLink RL 65 yX4_claim ∈ wU := mU (tb2 (List.mem_of_getElem? (i := 142) (by decide +kernel))) rfl
theorem mI_X4_claim : Cond.instanceMethod yX4_claim ∈ wU := mU (tb2 (List.mem_of_getElem? (i := 143) (by decide +kernel))) rfl
theorem mS_X4_claim : Cond.selects RX4 yX4_claim yX4_claim ∈ wU := mU (tb2 (List.mem_of_getElem? (i := 144) (by decide +kernel))) rfl
theorem mC_X4_claim : Cond.code yX4_claim cX4_claim 5 (some .int) ∈ wU := mU (tb2 (List.mem_of_getElem? (i := 145) (by decide +kernel))) rfl
theorem mL_RX4_176 : Cond.methodLink RX4 176 yX4_reasonAgainstClaiming ∈ wU := mU (tb2 (List.mem_of_getElem? (i := 146) (by decide +kernel))) rfl
theorem mI_X4_reasonAgainstClaiming : Cond.instanceMethod yX4_reasonAgainstClaiming ∈ wU := mU (tb2 (List.mem_of_getElem? (i := 148) (by decide +kernel))) rfl
theorem mC_X4_reasonAgainstClaiming : Cond.code yX4_reasonAgainstClaiming cX4_reasonAgainstClaiming 3 (some .int) ∈ wU := mU (tb2 (List.mem_of_getElem? (i := 149) (by decide +kernel))) rfl
theorem mL_RL_69 : Cond.methodLink RL 69 yX4_lose ∈ wU := mU (tb2 (List.mem_of_getElem? (i := 150) (by decide +kernel))) rfl
theorem mI_X4_lose : Cond.instanceMethod yX4_lose ∈ wU := mU (tb2 (List.mem_of_getElem? (i := 151) (by decide +kernel))) rfl
theorem mS_X4_lose : Cond.selects RX4 yX4_lose yX4_lose ∈ wU := mU (tb2 (List.mem_of_getElem? (i := 152) (by decide +kernel))) rfl
theorem mC_X4_lose : Cond.code yX4_lose cX4_lose 3 (some .int) ∈ wU := mU (tb2 (List.mem_of_getElem? (i := 153) (by decide +kernel))) rfl
theorem mL_RX4_179 : Cond.methodLink RX4 179 yX4_reasonAgainstLosing ∈ wU := mU (tb2 (List.mem_of_getElem? (i := 154) (by decide +kernel))) rfl
theorem mI_X4_reasonAgainstLosing : Cond.instanceMethod yX4_reasonAgainstLosing ∈ wU := mU (tb2 (List.mem_of_getElem? (i := 156) (by decide +kernel))) rfl
theorem mC_X4_reasonAgainstLosing : Cond.code yX4_reasonAgainstLosing cX4_reasonAgainstLosing 3 (some .int) ∈ wU := mU (tb2 (List.mem_of_getElem? (i := 157) (by decide +kernel))) rfl
theorem mL_RL_73 : Cond.methodLink RL 73 yX4_hold ∈ wU := mU (tb2 (List.mem_of_getElem? (i := 158) (by decide +kernel))) rfl
theorem mI_X4_hold : Cond.instanceMethod yX4_hold ∈ wU := mU (tb2 (List.mem_of_getElem? (i := 159) (by decide +kernel))) rfl
theorem mS_X4_hold : Cond.selects RX4 yX4_hold yX4_hold ∈ wU := mU (tb2 (List.mem_of_getElem? (i := 160) (by decide +kernel))) rfl
theorem mC_X4_hold : Cond.code yX4_hold cX4_hold 4 (some .int) ∈ wU := mU (tb2 (List.mem_of_getElem? (i := 161) (by decide +kernel))) rfl
theorem mL_RX4_185 : Cond.methodLink RX4 185 yX4_makeHold ∈ wU := mU (tb2 (List.mem_of_getElem? (i := 162) (by decide +kernel))) rfl
theorem mI_X4_makeHold : Cond.instanceMethod yX4_makeHold ∈ wU := mU (tb2 (List.mem_of_getElem? (i := 164) (by decide +kernel))) rfl
theorem mC_X4_makeHold : Cond.code yX4_makeHold cX4_makeHold 7 (some .int) ∈ wU := mU (tb2 (List.mem_of_getElem? (i := 165) (by decide +kernel))) rfl
theorem mL_RX4_189 : Cond.methodLink RX4 189 yX4_reasonAgainstHolding ∈ wU := mU (tb2 (List.mem_of_getElem? (i := 166) (by decide +kernel))) rfl
theorem mI_X4_reasonAgainstHolding : Cond.instanceMethod yX4_reasonAgainstHolding ∈ wU := mU (tb2 (List.mem_of_getElem? (i := 168) (by decide +kernel))) rfl
theorem mC_X4_reasonAgainstHolding : Cond.code yX4_reasonAgainstHolding cX4_reasonAgainstHolding 3 (some .int) ∈ wU := mU (tb2 (List.mem_of_getElem? (i := 169) (by decide +kernel))) rfl
theorem mL_RX4_204 : Cond.methodLink RX4 204 yX4_holdsOf ∈ wU := mU (tb2 (List.mem_of_getElem? (i := 170) (by decide +kernel))) rfl
theorem mI_X4_holdsOf : Cond.instanceMethod yX4_holdsOf ∈ wU := mU (tb2 (List.mem_of_getElem? (i := 172) (by decide +kernel))) rfl
theorem mC_X4_holdsOf : Cond.code yX4_holdsOf cX4_holdsOf 4 (some .int) ∈ wU := mU (tb2 (List.mem_of_getElem? (i := 173) (by decide +kernel))) rfl
theorem mL_RX4_207 : Cond.methodLink RX4 207 yX4_hasLoanOf ∈ wU := mU (tb2 (List.mem_of_getElem? (i := 174) (by decide +kernel))) rfl
theorem mI_X4_hasLoanOf : Cond.instanceMethod yX4_hasLoanOf ∈ wU := mU (tb2 (List.mem_of_getElem? (i := 176) (by decide +kernel))) rfl
theorem mC_X4_hasLoanOf : Cond.code yX4_hasLoanOf cX4_hasLoanOf 4 (some .boolean) ∈ wU := mU (tb2 (List.mem_of_getElem? (i := 177) (by decide +kernel))) rfl
theorem mL_RX4_195 : Cond.methodLink RX4 195 yX4_nearestOnShelf ∈ wU := mU (tb2 (List.mem_of_getElem? (i := 178) (by decide +kernel))) rfl
theorem mI_X4_nearestOnShelf : Cond.instanceMethod yX4_nearestOnShelf ∈ wU := mU (tb2 (List.mem_of_getElem? (i := 180) (by decide +kernel))) rfl
theorem mC_X4_nearestOnShelf : Cond.code yX4_nearestOnShelf cX4_nearestOnShelf 7 (some .int) ∈ wU := mU (tb2 (List.mem_of_getElem? (i := 181) (by decide +kernel))) rfl
theorem mL_RX4_198 : Cond.methodLink RX4 198 yX4_recallFor ∈ wU := mU (tb2 (List.mem_of_getElem? (i := 182) (by decide +kernel))) rfl
theorem mI_X4_recallFor : Cond.instanceMethod yX4_recallFor ∈ wU := mU (tb2 (List.mem_of_getElem? (i := 184) (by decide +kernel))) rfl
theorem mC_X4_recallFor : Cond.code yX4_recallFor cX4_recallFor 6 none ∈ wU := mU (tb2 (List.mem_of_getElem? (i := 185) (by decide +kernel))) rfl
theorem mL_RX4_302 : Cond.methodLink RX4 302 yX4_earliestNotRecalled ∈ wU := mU (tb2 (List.mem_of_getElem? (i := 186) (by decide +kernel))) rfl
theorem mI_X4_earliestNotRecalled : Cond.instanceMethod yX4_earliestNotRecalled ∈ wU := mU (tb2 (List.mem_of_getElem? (i := 188) (by decide +kernel))) rfl
theorem mC_X4_earliestNotRecalled : Cond.code yX4_earliestNotRecalled cX4_earliestNotRecalled 4 (some .int) ∈ wU := mU (tb2 (List.mem_of_getElem? (i := 189) (by decide +kernel))) rfl
theorem mL_RX4_222 : Cond.methodLink RX4 222 ⟨"java/lang/Math", "max", "(II)I"⟩ ∈ wU := mU (tb2 (List.mem_of_getElem? (i := 190) (by decide +kernel))) rfl
theorem mL_RX4_305 : Cond.methodLink RX4 305 ⟨"java/lang/Math", "min", "(II)I"⟩ ∈ wU := mU (tb2 (List.mem_of_getElem? (i := 191) (by decide +kernel))) rfl
theorem mL_RX4_201 : Cond.methodLink RX4 201 yX4_waitingBefore ∈ wU := mU (tb2 (List.mem_of_getElem? (i := 192) (by decide +kernel))) rfl
theorem mI_X4_waitingBefore : Cond.instanceMethod yX4_waitingBefore ∈ wU := mU (tb2 (List.mem_of_getElem? (i := 194) (by decide +kernel))) rfl
theorem mC_X4_waitingBefore : Cond.code yX4_waitingBefore cX4_waitingBefore 5 (some .int) ∈ wU := mU (tb2 (List.mem_of_getElem? (i := 195) (by decide +kernel))) rfl
theorem mL_RL_78 : Cond.methodLink RL 78 yX4_cancelHold ∈ wU := mU (tb2 (List.mem_of_getElem? (i := 196) (by decide +kernel))) rfl
theorem mI_X4_cancelHold : Cond.instanceMethod yX4_cancelHold ∈ wU := mU (tb2 (List.mem_of_getElem? (i := 197) (by decide +kernel))) rfl
theorem mS_X4_cancelHold : Cond.selects RX4 yX4_cancelHold yX4_cancelHold ∈ wU := mU (tb2 (List.mem_of_getElem? (i := 198) (by decide +kernel))) rfl
theorem mC_X4_cancelHold : Cond.code yX4_cancelHold cX4_cancelHold 3 (some .int) ∈ wU := mU (tb2 (List.mem_of_getElem? (i := 199) (by decide +kernel))) rfl
theorem mL_RX4_210 : Cond.methodLink RX4 210 yX4_dropHold ∈ wU := mU (tb2 (List.mem_of_getElem? (i := 200) (by decide +kernel))) rfl
theorem mI_X4_dropHold : Cond.instanceMethod yX4_dropHold ∈ wU := mU (tb2 (List.mem_of_getElem? (i := 202) (by decide +kernel))) rfl
theorem mC_X4_dropHold : Cond.code yX4_dropHold cX4_dropHold 5 (some .int) ∈ wU := mU (tb2 (List.mem_of_getElem? (i := 203) (by decide +kernel))) rfl
theorem mL_RX4_213 : Cond.methodLink RX4 213 yX4_holdsBefore ∈ wU := mU (tb2 (List.mem_of_getElem? (i := 204) (by decide +kernel))) rfl
theorem mI_X4_holdsBefore : Cond.instanceMethod yX4_holdsBefore ∈ wU := mU (tb2 (List.mem_of_getElem? (i := 206) (by decide +kernel))) rfl
theorem mC_X4_holdsBefore : Cond.code yX4_holdsBefore cX4_holdsBefore 5 (some .int) ∈ wU := mU (tb2 (List.mem_of_getElem? (i := 207) (by decide +kernel))) rfl
theorem mL_RL_82 : Cond.methodLink RL 82 yX4_reason ∈ wU := mU (tb2 (List.mem_of_getElem? (i := 208) (by decide +kernel))) rfl
theorem mI_X4_reason : Cond.instanceMethod yX4_reason ∈ wU := mU (tb2 (List.mem_of_getElem? (i := 209) (by decide +kernel))) rfl
theorem mS_X4_reason : Cond.selects RX4 yX4_reason yX4_reason ∈ wU := mU (tb2 (List.mem_of_getElem? (i := 210) (by decide +kernel))) rfl
theorem mC_X4_reason : Cond.code yX4_reason cX4_reason 4 (some .int) ∈ wU := mU (tb2 (List.mem_of_getElem? (i := 211) (by decide +kernel))) rfl
theorem mL_RL_86 : Cond.methodLink RL 86 yX4_holdCount ∈ wU := mU (tb2 (List.mem_of_getElem? (i := 212) (by decide +kernel))) rfl
theorem mI_X4_holdCount : Cond.instanceMethod yX4_holdCount ∈ wU := mU (tb2 (List.mem_of_getElem? (i := 213) (by decide +kernel))) rfl
theorem mS_X4_holdCount : Cond.selects RX4 yX4_holdCount yX4_holdCount ∈ wU := mU (tb2 (List.mem_of_getElem? (i := 214) (by decide +kernel))) rfl
theorem mC_X4_holdCount : Cond.code yX4_holdCount cX4_holdCount 2 (some .int) ∈ wU := mU (tb2 (List.mem_of_getElem? (i := 215) (by decide +kernel))) rfl
theorem mL_RL_90 : Cond.methodLink RL 90 yX4_waiting ∈ wU := mU (tb2 (List.mem_of_getElem? (i := 216) (by decide +kernel))) rfl
theorem mI_X4_waiting : Cond.instanceMethod yX4_waiting ∈ wU := mU (tb2 (List.mem_of_getElem? (i := 217) (by decide +kernel))) rfl
theorem mS_X4_waiting : Cond.selects RX4 yX4_waiting yX4_waiting ∈ wU := mU (tb2 (List.mem_of_getElem? (i := 218) (by decide +kernel))) rfl
theorem mC_X4_waiting : Cond.code yX4_waiting cX4_waiting 2 (some .int) ∈ wU := mU (tb2 (List.mem_of_getElem? (i := 219) (by decide +kernel))) rfl
theorem mL_RL_94 : Cond.methodLink RL 94 yX4_holdAt ∈ wU := mU (tb2 (List.mem_of_getElem? (i := 220) (by decide +kernel))) rfl
theorem mI_X4_holdAt : Cond.instanceMethod yX4_holdAt ∈ wU := mU (tb2 (List.mem_of_getElem? (i := 221) (by decide +kernel))) rfl
theorem mS_X4_holdAt : Cond.selects RX4 yX4_holdAt yX4_holdAt ∈ wU := mU (tb2 (List.mem_of_getElem? (i := 222) (by decide +kernel))) rfl
theorem mC_X4_holdAt : Cond.code yX4_holdAt cX4_holdAt 6 (some .int) ∈ wU := mU (tb2 (List.mem_of_getElem? (i := 223) (by decide +kernel))) rfl
theorem mL_RL_98 : Cond.methodLink RL 98 yX4_place ∈ wU := mU (tb2 (List.mem_of_getElem? (i := 224) (by decide +kernel))) rfl
theorem mI_X4_place : Cond.instanceMethod yX4_place ∈ wU := mU (tb2 (List.mem_of_getElem? (i := 225) (by decide +kernel))) rfl
theorem mS_X4_place : Cond.selects RX4 yX4_place yX4_place ∈ wU := mU (tb2 (List.mem_of_getElem? (i := 226) (by decide +kernel))) rfl
theorem mC_X4_place : Cond.code yX4_place cX4_place 4 (some .int) ∈ wU := mU (tb2 (List.mem_of_getElem? (i := 227) (by decide +kernel))) rfl
theorem mL_RL_102 : Cond.methodLink RL 102 yX4_estimate ∈ wU := mU (tb2 (List.mem_of_getElem? (i := 228) (by decide +kernel))) rfl
theorem mI_X4_estimate : Cond.instanceMethod yX4_estimate ∈ wU := mU (tb2 (List.mem_of_getElem? (i := 229) (by decide +kernel))) rfl
theorem mS_X4_estimate : Cond.selects RX4 yX4_estimate yX4_estimate ∈ wU := mU (tb2 (List.mem_of_getElem? (i := 230) (by decide +kernel))) rfl
theorem mC_X4_estimate : Cond.code yX4_estimate cX4_estimate 7 (some .int) ∈ wU := mU (tb2 (List.mem_of_getElem? (i := 231) (by decide +kernel))) rfl
theorem mL_RX4_216 : Cond.methodLink RX4 216 yX4_expectedDay ∈ wU := mU (tb2 (List.mem_of_getElem? (i := 232) (by decide +kernel))) rfl
theorem mI_X4_expectedDay : Cond.instanceMethod yX4_expectedDay ∈ wU := mU (tb2 (List.mem_of_getElem? (i := 234) (by decide +kernel))) rfl
theorem mC_X4_expectedDay : Cond.code yX4_expectedDay cX4_expectedDay 4 (some .int) ∈ wU := mU (tb2 (List.mem_of_getElem? (i := 235) (by decide +kernel))) rfl
theorem mL_RX4_219 : Cond.methodLink RX4 219 yX4_expectedBefore ∈ wU := mU (tb2 (List.mem_of_getElem? (i := 236) (by decide +kernel))) rfl
theorem mI_X4_expectedBefore : Cond.instanceMethod yX4_expectedBefore ∈ wU := mU (tb2 (List.mem_of_getElem? (i := 238) (by decide +kernel))) rfl
theorem mC_X4_expectedBefore : Cond.code yX4_expectedBefore cX4_expectedBefore 7 (some .int) ∈ wU := mU (tb2 (List.mem_of_getElem? (i := 239) (by decide +kernel))) rfl
theorem mL_RX4_227 : Cond.methodLink RX4 227 yX4_isBefore ∈ wU := mU (tb3 (List.mem_of_getElem? (i := 0) (by decide +kernel))) rfl
theorem mT_X4_isBefore : Cond.static yX4_isBefore ∈ wU := mU (tb3 (List.mem_of_getElem? (i := 1) (by decide +kernel))) rfl
theorem mC_X4_isBefore : Cond.code yX4_isBefore cX4_isBefore 4 (some .boolean) ∈ wU := mU (tb3 (List.mem_of_getElem? (i := 2) (by decide +kernel))) rfl
theorem mL_RL_106 : Cond.methodLink RL 106 yX4_patronCount ∈ wU := mU (tb3 (List.mem_of_getElem? (i := 3) (by decide +kernel))) rfl
theorem mI_X4_patronCount : Cond.instanceMethod yX4_patronCount ∈ wU := mU (tb3 (List.mem_of_getElem? (i := 4) (by decide +kernel))) rfl
theorem mS_X4_patronCount : Cond.selects RX4 yX4_patronCount yX4_patronCount ∈ wU := mU (tb3 (List.mem_of_getElem? (i := 5) (by decide +kernel))) rfl
theorem mC_X4_patronCount : Cond.code yX4_patronCount cX4_patronCount 1 (some .int) ∈ wU := mU (tb3 (List.mem_of_getElem? (i := 6) (by decide +kernel))) rfl
theorem mL_RL_110 : Cond.methodLink RL 110 yX4_owes ∈ wU := mU (tb3 (List.mem_of_getElem? (i := 7) (by decide +kernel))) rfl
theorem mI_X4_owes : Cond.instanceMethod yX4_owes ∈ wU := mU (tb3 (List.mem_of_getElem? (i := 8) (by decide +kernel))) rfl
theorem mS_X4_owes : Cond.selects RX4 yX4_owes yX4_owes ∈ wU := mU (tb3 (List.mem_of_getElem? (i := 9) (by decide +kernel))) rfl
theorem mC_X4_owes : Cond.code yX4_owes cX4_owes 2 (some .int) ∈ wU := mU (tb3 (List.mem_of_getElem? (i := 10) (by decide +kernel))) rfl
theorem mL_RL_114 : Cond.methodLink RL 114 yX4_accrued ∈ wU := mU (tb3 (List.mem_of_getElem? (i := 11) (by decide +kernel))) rfl
theorem mI_X4_accrued : Cond.instanceMethod yX4_accrued ∈ wU := mU (tb3 (List.mem_of_getElem? (i := 12) (by decide +kernel))) rfl
theorem mS_X4_accrued : Cond.selects RX4 yX4_accrued yX4_accrued ∈ wU := mU (tb3 (List.mem_of_getElem? (i := 13) (by decide +kernel))) rfl
theorem mC_X4_accrued : Cond.code yX4_accrued cX4_accrued 4 (some .int) ∈ wU := mU (tb3 (List.mem_of_getElem? (i := 14) (by decide +kernel))) rfl
theorem mL_RL_118 : Cond.methodLink RL 118 yX4_patron ∈ wU := mU (tb3 (List.mem_of_getElem? (i := 15) (by decide +kernel))) rfl
theorem mI_X4_patron : Cond.instanceMethod yX4_patron ∈ wU := mU (tb3 (List.mem_of_getElem? (i := 16) (by decide +kernel))) rfl
theorem mS_X4_patron : Cond.selects RX4 yX4_patron yX4_patron ∈ wU := mU (tb3 (List.mem_of_getElem? (i := 17) (by decide +kernel))) rfl
theorem mC_X4_patron : Cond.code yX4_patron cX4_patron 3 (some .int) ∈ wU := mU (tb3 (List.mem_of_getElem? (i := 18) (by decide +kernel))) rfl
theorem mL_RX4_235 : Cond.methodLink RX4 235 yX4_overdueCount ∈ wU := mU (tb3 (List.mem_of_getElem? (i := 19) (by decide +kernel))) rfl
theorem mI_X4_overdueCount : Cond.instanceMethod yX4_overdueCount ∈ wU := mU (tb3 (List.mem_of_getElem? (i := 21) (by decide +kernel))) rfl
theorem mC_X4_overdueCount : Cond.code yX4_overdueCount cX4_overdueCount 4 (some .int) ∈ wU := mU (tb3 (List.mem_of_getElem? (i := 22) (by decide +kernel))) rfl
theorem mL_RL_122 : Cond.methodLink RL 122 yX4_loanOf ∈ wU := mU (tb3 (List.mem_of_getElem? (i := 23) (by decide +kernel))) rfl
theorem mI_X4_loanOf : Cond.instanceMethod yX4_loanOf ∈ wU := mU (tb3 (List.mem_of_getElem? (i := 24) (by decide +kernel))) rfl
theorem mS_X4_loanOf : Cond.selects RX4 yX4_loanOf yX4_loanOf ∈ wU := mU (tb3 (List.mem_of_getElem? (i := 25) (by decide +kernel))) rfl
theorem mC_X4_loanOf : Cond.code yX4_loanOf cX4_loanOf 3 (some .int) ∈ wU := mU (tb3 (List.mem_of_getElem? (i := 26) (by decide +kernel))) rfl
theorem mL_RX4_238 : Cond.methodLink RX4 238 yX4_nextByDay ∈ wU := mU (tb3 (List.mem_of_getElem? (i := 27) (by decide +kernel))) rfl
theorem mI_X4_nextByDay : Cond.instanceMethod yX4_nextByDay ∈ wU := mU (tb3 (List.mem_of_getElem? (i := 29) (by decide +kernel))) rfl
theorem mC_X4_nextByDay : Cond.code yX4_nextByDay cX4_nextByDay 5 (some .int) ∈ wU := mU (tb3 (List.mem_of_getElem? (i := 30) (by decide +kernel))) rfl
theorem mL_RX4_308 : Cond.methodLink RX4 308 yX4_countBefore ∈ wU := mU (tb3 (List.mem_of_getElem? (i := 31) (by decide +kernel))) rfl
theorem mI_X4_countBefore : Cond.instanceMethod yX4_countBefore ∈ wU := mU (tb3 (List.mem_of_getElem? (i := 33) (by decide +kernel))) rfl
theorem mC_X4_countBefore : Cond.code yX4_countBefore cX4_countBefore 7 (some .int) ∈ wU := mU (tb3 (List.mem_of_getElem? (i := 34) (by decide +kernel))) rfl
theorem mL_RL_126 : Cond.methodLink RL 126 yX4_fine ∈ wU := mU (tb3 (List.mem_of_getElem? (i := 35) (by decide +kernel))) rfl
theorem mI_X4_fine : Cond.instanceMethod yX4_fine ∈ wU := mU (tb3 (List.mem_of_getElem? (i := 36) (by decide +kernel))) rfl
theorem mS_X4_fine : Cond.selects RX4 yX4_fine yX4_fine ∈ wU := mU (tb3 (List.mem_of_getElem? (i := 37) (by decide +kernel))) rfl
theorem mC_X4_fine : Cond.code yX4_fine cX4_fine 2 (some .int) ∈ wU := mU (tb3 (List.mem_of_getElem? (i := 38) (by decide +kernel))) rfl
theorem mL_RL_130 : Cond.methodLink RL 130 yX4_pay ∈ wU := mU (tb3 (List.mem_of_getElem? (i := 39) (by decide +kernel))) rfl
theorem mI_X4_pay : Cond.instanceMethod yX4_pay ∈ wU := mU (tb3 (List.mem_of_getElem? (i := 40) (by decide +kernel))) rfl
theorem mS_X4_pay : Cond.selects RX4 yX4_pay yX4_pay ∈ wU := mU (tb3 (List.mem_of_getElem? (i := 41) (by decide +kernel))) rfl
theorem mC_X4_pay : Cond.code yX4_pay cX4_pay 3 (some .int) ∈ wU := mU (tb3 (List.mem_of_getElem? (i := 42) (by decide +kernel))) rfl
theorem mL_RX4_241 : Cond.methodLink RX4 241 yX4_credit ∈ wU := mU (tb3 (List.mem_of_getElem? (i := 43) (by decide +kernel))) rfl
theorem mI_X4_credit : Cond.instanceMethod yX4_credit ∈ wU := mU (tb3 (List.mem_of_getElem? (i := 45) (by decide +kernel))) rfl
theorem mC_X4_credit : Cond.code yX4_credit cX4_credit 4 (some .int) ∈ wU := mU (tb3 (List.mem_of_getElem? (i := 46) (by decide +kernel))) rfl
theorem mL_RL_134 : Cond.methodLink RL 134 yX4_waive ∈ wU := mU (tb3 (List.mem_of_getElem? (i := 47) (by decide +kernel))) rfl
theorem mI_X4_waive : Cond.instanceMethod yX4_waive ∈ wU := mU (tb3 (List.mem_of_getElem? (i := 48) (by decide +kernel))) rfl
theorem mS_X4_waive : Cond.selects RX4 yX4_waive yX4_waive ∈ wU := mU (tb3 (List.mem_of_getElem? (i := 49) (by decide +kernel))) rfl
theorem mC_X4_waive : Cond.code yX4_waive cX4_waive 3 (some .int) ∈ wU := mU (tb3 (List.mem_of_getElem? (i := 50) (by decide +kernel))) rfl
theorem mL_RL_138 : Cond.methodLink RL 138 yX4_ledgerSize ∈ wU := mU (tb3 (List.mem_of_getElem? (i := 51) (by decide +kernel))) rfl
theorem mI_X4_ledgerSize : Cond.instanceMethod yX4_ledgerSize ∈ wU := mU (tb3 (List.mem_of_getElem? (i := 52) (by decide +kernel))) rfl
theorem mS_X4_ledgerSize : Cond.selects RX4 yX4_ledgerSize yX4_ledgerSize ∈ wU := mU (tb3 (List.mem_of_getElem? (i := 53) (by decide +kernel))) rfl
theorem mC_X4_ledgerSize : Cond.code yX4_ledgerSize cX4_ledgerSize 1 (some .int) ∈ wU := mU (tb3 (List.mem_of_getElem? (i := 54) (by decide +kernel))) rfl
theorem mL_RL_142 : Cond.methodLink RL 142 yX4_ledger ∈ wU := mU (tb3 (List.mem_of_getElem? (i := 55) (by decide +kernel))) rfl
theorem mI_X4_ledger : Cond.instanceMethod yX4_ledger ∈ wU := mU (tb3 (List.mem_of_getElem? (i := 56) (by decide +kernel))) rfl
theorem mS_X4_ledger : Cond.selects RX4 yX4_ledger yX4_ledger ∈ wU := mU (tb3 (List.mem_of_getElem? (i := 57) (by decide +kernel))) rfl
theorem mC_X4_ledger : Cond.code yX4_ledger cX4_ledger 3 (some .int) ∈ wU := mU (tb3 (List.mem_of_getElem? (i := 58) (by decide +kernel))) rfl
theorem mK_RX4_249 : Cond.constant RX4 249 (-2147483648) ∈ wU := mU (tb3 (List.mem_of_getElem? (i := 59) (by decide +kernel))) rfl
theorem mL_RL_146 : Cond.methodLink RL 146 yX4_ledgerSum ∈ wU := mU (tb3 (List.mem_of_getElem? (i := 60) (by decide +kernel))) rfl
theorem mI_X4_ledgerSum : Cond.instanceMethod yX4_ledgerSum ∈ wU := mU (tb3 (List.mem_of_getElem? (i := 61) (by decide +kernel))) rfl
theorem mS_X4_ledgerSum : Cond.selects RX4 yX4_ledgerSum yX4_ledgerSum ∈ wU := mU (tb3 (List.mem_of_getElem? (i := 62) (by decide +kernel))) rfl
theorem mC_X4_ledgerSum : Cond.code yX4_ledgerSum cX4_ledgerSum 6 (some .int) ∈ wU := mU (tb3 (List.mem_of_getElem? (i := 63) (by decide +kernel))) rfl
theorem mL_RL_150 : Cond.methodLink RL 150 yX4_shelf ∈ wU := mU (tb3 (List.mem_of_getElem? (i := 64) (by decide +kernel))) rfl
theorem mI_X4_shelf : Cond.instanceMethod yX4_shelf ∈ wU := mU (tb3 (List.mem_of_getElem? (i := 65) (by decide +kernel))) rfl
theorem mS_X4_shelf : Cond.selects RX4 yX4_shelf yX4_shelf ∈ wU := mU (tb3 (List.mem_of_getElem? (i := 66) (by decide +kernel))) rfl
theorem mC_X4_shelf : Cond.code yX4_shelf cX4_shelf 5 (some .int) ∈ wU := mU (tb3 (List.mem_of_getElem? (i := 67) (by decide +kernel))) rfl
theorem mL_RL_154 : Cond.methodLink RL 154 yX4_arriving ∈ wU := mU (tb3 (List.mem_of_getElem? (i := 68) (by decide +kernel))) rfl
theorem mI_X4_arriving : Cond.instanceMethod yX4_arriving ∈ wU := mU (tb3 (List.mem_of_getElem? (i := 69) (by decide +kernel))) rfl
theorem mS_X4_arriving : Cond.selects RX4 yX4_arriving yX4_arriving ∈ wU := mU (tb3 (List.mem_of_getElem? (i := 70) (by decide +kernel))) rfl
theorem mC_X4_arriving : Cond.code yX4_arriving cX4_arriving 3 (some .int) ∈ wU := mU (tb3 (List.mem_of_getElem? (i := 71) (by decide +kernel))) rfl
theorem mL_RL_158 : Cond.methodLink RL 158 yX4_feed ∈ wU := mU (tb3 (List.mem_of_getElem? (i := 72) (by decide +kernel))) rfl
theorem mI_X4_feed : Cond.instanceMethod yX4_feed ∈ wU := mU (tb3 (List.mem_of_getElem? (i := 73) (by decide +kernel))) rfl
theorem mS_X4_feed : Cond.selects RX4 yX4_feed yX4_feed ∈ wU := mU (tb3 (List.mem_of_getElem? (i := 74) (by decide +kernel))) rfl
theorem mC_X4_feed : Cond.code yX4_feed cX4_feed 2 (some .int) ∈ wU := mU (tb3 (List.mem_of_getElem? (i := 75) (by decide +kernel))) rfl
theorem mL_RX4_250 : Cond.methodLink RX4 250 yX0_append ∈ wU := mU (tb3 (List.mem_of_getElem? (i := 76) (by decide +kernel))) rfl
theorem mI_X0_append : Cond.instanceMethod yX0_append ∈ wU := mU (tb3 (List.mem_of_getElem? (i := 77) (by decide +kernel))) rfl
theorem mS_X0_append : Cond.selects RX0 yX0_append yX0_append ∈ wU := mU (tb3 (List.mem_of_getElem? (i := 78) (by decide +kernel))) rfl
theorem mC_X0_append : Cond.code yX0_append cX0_append 2 (some .int) ∈ wU := mU (tb3 (List.mem_of_getElem? (i := 79) (by decide +kernel))) rfl
theorem mL_RL_162 : Cond.methodLink RL 162 yX4_execute ∈ wU := mU (tb3 (List.mem_of_getElem? (i := 80) (by decide +kernel))) rfl
theorem mI_X4_execute : Cond.instanceMethod yX4_execute ∈ wU := mU (tb3 (List.mem_of_getElem? (i := 81) (by decide +kernel))) rfl
theorem mS_X4_execute : Cond.selects RX4 yX4_execute yX4_execute ∈ wU := mU (tb3 (List.mem_of_getElem? (i := 82) (by decide +kernel))) rfl
theorem mC_X4_execute : Cond.code yX4_execute cX4_execute 4 (some .int) ∈ wU := mU (tb3 (List.mem_of_getElem? (i := 83) (by decide +kernel))) rfl
theorem mL_RX4_253 : Cond.methodLink RX4 253 yX0_readAll ∈ wU := mU (tb3 (List.mem_of_getElem? (i := 84) (by decide +kernel))) rfl
theorem mI_X0_readAll : Cond.instanceMethod yX0_readAll ∈ wU := mU (tb3 (List.mem_of_getElem? (i := 85) (by decide +kernel))) rfl
theorem mS_X0_readAll : Cond.selects RX0 yX0_readAll yX0_readAll ∈ wU := mU (tb3 (List.mem_of_getElem? (i := 86) (by decide +kernel))) rfl
theorem mC_X0_readAll : Cond.code yX0_readAll cX0_readAll 2 (some .boolean) ∈ wU := mU (tb3 (List.mem_of_getElem? (i := 87) (by decide +kernel))) rfl
theorem mL_RX0_39 : Cond.methodLink RX0 39 yX3_removeAllRows ∈ wU := mU (tb3 (List.mem_of_getElem? (i := 88) (by decide +kernel))) rfl
theorem mI_X3_removeAllRows : Cond.instanceMethod yX3_removeAllRows ∈ wU := mU (tb3 (List.mem_of_getElem? (i := 89) (by decide +kernel))) rfl
theorem mS_X3_removeAllRows : Cond.selects RX3 yX3_removeAllRows yX3_removeAllRows ∈ wU := mU (tb3 (List.mem_of_getElem? (i := 90) (by decide +kernel))) rfl
theorem mC_X3_removeAllRows : Cond.code yX3_removeAllRows cX3_removeAllRows 1 none ∈ wU := mU (tb3 (List.mem_of_getElem? (i := 91) (by decide +kernel))) rfl
theorem mL_RX0_42 : Cond.methodLink RX0 42 yX0_readCommand ∈ wU := mU (tb3 (List.mem_of_getElem? (i := 92) (by decide +kernel))) rfl
theorem mI_X0_readCommand : Cond.instanceMethod yX0_readCommand ∈ wU := mU (tb3 (List.mem_of_getElem? (i := 94) (by decide +kernel))) rfl
theorem mC_X0_readCommand : Cond.code yX0_readCommand cX0_readCommand 5 (some .boolean) ∈ wU := mU (tb3 (List.mem_of_getElem? (i := 95) (by decide +kernel))) rfl
theorem mL_RX0_46 : Cond.methodLink RX0 46 yX0_letterAt ∈ wU := mU (tb3 (List.mem_of_getElem? (i := 96) (by decide +kernel))) rfl
theorem mI_X0_letterAt : Cond.instanceMethod yX0_letterAt ∈ wU := mU (tb3 (List.mem_of_getElem? (i := 98) (by decide +kernel))) rfl
theorem mC_X0_letterAt : Cond.code yX0_letterAt cX0_letterAt 2 (some .int) ∈ wU := mU (tb3 (List.mem_of_getElem? (i := 99) (by decide +kernel))) rfl
theorem mL_RX0_50 : Cond.methodLink RX0 50 yX0_numbersOf ∈ wU := mU (tb3 (List.mem_of_getElem? (i := 100) (by decide +kernel))) rfl
theorem mT_X0_numbersOf : Cond.static yX0_numbersOf ∈ wU := mU (tb3 (List.mem_of_getElem? (i := 101) (by decide +kernel))) rfl
theorem mC_X0_numbersOf : Cond.code yX0_numbersOf cX0_numbersOf 1 (some .int) ∈ wU := mU (tb3 (List.mem_of_getElem? (i := 102) (by decide +kernel))) rfl
theorem mL_RX0_53 : Cond.methodLink RX0 53 yX3_addRow ∈ wU := mU (tb3 (List.mem_of_getElem? (i := 103) (by decide +kernel))) rfl
theorem mL_RX0_56 : Cond.methodLink RX0 56 yX3_put ∈ wU := mU (tb3 (List.mem_of_getElem? (i := 104) (by decide +kernel))) rfl
theorem mL_RX0_60 : Cond.methodLink RX0 60 yX0_readNumber ∈ wU := mU (tb3 (List.mem_of_getElem? (i := 105) (by decide +kernel))) rfl
theorem mI_X0_readNumber : Cond.instanceMethod yX0_readNumber ∈ wU := mU (tb3 (List.mem_of_getElem? (i := 107) (by decide +kernel))) rfl
theorem mC_X0_readNumber : Cond.code yX0_readNumber cX0_readNumber 5 (some .boolean) ∈ wU := mU (tb3 (List.mem_of_getElem? (i := 108) (by decide +kernel))) rfl
theorem mL_RX0_64 : Cond.methodLink RX0 64 yX0_isDigit ∈ wU := mU (tb3 (List.mem_of_getElem? (i := 109) (by decide +kernel))) rfl
theorem mT_X0_isDigit : Cond.static yX0_isDigit ∈ wU := mU (tb3 (List.mem_of_getElem? (i := 110) (by decide +kernel))) rfl
theorem mC_X0_isDigit : Cond.code yX0_isDigit cX0_isDigit 1 (some .boolean) ∈ wU := mU (tb3 (List.mem_of_getElem? (i := 111) (by decide +kernel))) rfl
theorem mL_RX4_257 : Cond.methodLink RX4 257 yX0_emptyBuffer ∈ wU := mU (tb3 (List.mem_of_getElem? (i := 112) (by decide +kernel))) rfl
theorem mI_X0_emptyBuffer : Cond.instanceMethod yX0_emptyBuffer ∈ wU := mU (tb3 (List.mem_of_getElem? (i := 113) (by decide +kernel))) rfl
theorem mS_X0_emptyBuffer : Cond.selects RX0 yX0_emptyBuffer yX0_emptyBuffer ∈ wU := mU (tb3 (List.mem_of_getElem? (i := 114) (by decide +kernel))) rfl
theorem mC_X0_emptyBuffer : Cond.code yX0_emptyBuffer cX0_emptyBuffer 1 none ∈ wU := mU (tb3 (List.mem_of_getElem? (i := 115) (by decide +kernel))) rfl
theorem mL_RX4_260 : Cond.methodLink RX4 260 yX0_position ∈ wU := mU (tb3 (List.mem_of_getElem? (i := 116) (by decide +kernel))) rfl
theorem mI_X0_position : Cond.instanceMethod yX0_position ∈ wU := mU (tb3 (List.mem_of_getElem? (i := 117) (by decide +kernel))) rfl
theorem mS_X0_position : Cond.selects RX0 yX0_position yX0_position ∈ wU := mU (tb3 (List.mem_of_getElem? (i := 118) (by decide +kernel))) rfl
theorem mC_X0_position : Cond.code yX0_position cX0_position 1 (some .int) ∈ wU := mU (tb3 (List.mem_of_getElem? (i := 119) (by decide +kernel))) rfl
theorem mL_RX4_263 : Cond.methodLink RX4 263 yX0_commandCount ∈ wU := mU (tb3 (List.mem_of_getElem? (i := 120) (by decide +kernel))) rfl
theorem mI_X0_commandCount : Cond.instanceMethod yX0_commandCount ∈ wU := mU (tb3 (List.mem_of_getElem? (i := 121) (by decide +kernel))) rfl
theorem mS_X0_commandCount : Cond.selects RX0 yX0_commandCount yX0_commandCount ∈ wU := mU (tb3 (List.mem_of_getElem? (i := 122) (by decide +kernel))) rfl
theorem mC_X0_commandCount : Cond.code yX0_commandCount cX0_commandCount 1 (some .int) ∈ wU := mU (tb3 (List.mem_of_getElem? (i := 123) (by decide +kernel))) rfl
theorem mL_RX0_31 : Cond.methodLink RX0 31 yX3_size ∈ wU := mU (tb3 (List.mem_of_getElem? (i := 124) (by decide +kernel))) rfl
theorem mL_RX4_266 : Cond.methodLink RX4 266 yX4_runCommand ∈ wU := mU (tb3 (List.mem_of_getElem? (i := 125) (by decide +kernel))) rfl
theorem mI_X4_runCommand : Cond.instanceMethod yX4_runCommand ∈ wU := mU (tb3 (List.mem_of_getElem? (i := 127) (by decide +kernel))) rfl
theorem mC_X4_runCommand : Cond.code yX4_runCommand cX4_runCommand 4 (some .int) ∈ wU := mU (tb3 (List.mem_of_getElem? (i := 128) (by decide +kernel))) rfl
theorem mL_RX4_273 : Cond.methodLink RX4 273 yX0_number ∈ wU := mU (tb3 (List.mem_of_getElem? (i := 129) (by decide +kernel))) rfl
theorem mI_X0_number : Cond.instanceMethod yX0_number ∈ wU := mU (tb3 (List.mem_of_getElem? (i := 130) (by decide +kernel))) rfl
theorem mS_X0_number : Cond.selects RX0 yX0_number yX0_number ∈ wU := mU (tb3 (List.mem_of_getElem? (i := 131) (by decide +kernel))) rfl
theorem mC_X0_number : Cond.code yX0_number cX0_number 3 (some .int) ∈ wU := mU (tb3 (List.mem_of_getElem? (i := 132) (by decide +kernel))) rfl
theorem mL_RX0_35 : Cond.methodLink RX0 35 yX3_get ∈ wU := mU (tb3 (List.mem_of_getElem? (i := 133) (by decide +kernel))) rfl
theorem mL_RX4_276 : Cond.methodLink RX4 276 yX0_letter ∈ wU := mU (tb3 (List.mem_of_getElem? (i := 134) (by decide +kernel))) rfl
theorem mI_X0_letter : Cond.instanceMethod yX0_letter ∈ wU := mU (tb3 (List.mem_of_getElem? (i := 135) (by decide +kernel))) rfl
theorem mS_X0_letter : Cond.selects RX0 yX0_letter yX0_letter ∈ wU := mU (tb3 (List.mem_of_getElem? (i := 136) (by decide +kernel))) rfl
theorem mC_X0_letter : Cond.code yX0_letter cX0_letter 2 (some .int) ∈ wU := mU (tb3 (List.mem_of_getElem? (i := 137) (by decide +kernel))) rfl
theorem mL_RL_166 : Cond.methodLink RL 166 yX4_save ∈ wU := mU (tb3 (List.mem_of_getElem? (i := 138) (by decide +kernel))) rfl
theorem mI_X4_save : Cond.instanceMethod yX4_save ∈ wU := mU (tb3 (List.mem_of_getElem? (i := 139) (by decide +kernel))) rfl
theorem mS_X4_save : Cond.selects RX4 yX4_save yX4_save ∈ wU := mU (tb3 (List.mem_of_getElem? (i := 140) (by decide +kernel))) rfl
theorem mC_X4_save : Cond.code yX4_save cX4_save 1 (some .int) ∈ wU := mU (tb3 (List.mem_of_getElem? (i := 141) (by decide +kernel))) rfl
theorem mL_RL_170 : Cond.methodLink RL 170 yX4_restore ∈ wU := mU (tb3 (List.mem_of_getElem? (i := 142) (by decide +kernel))) rfl
theorem mI_X4_restore : Cond.instanceMethod yX4_restore ∈ wU := mU (tb3 (List.mem_of_getElem? (i := 143) (by decide +kernel))) rfl
theorem mS_X4_restore : Cond.selects RX4 yX4_restore yX4_restore ∈ wU := mU (tb3 (List.mem_of_getElem? (i := 144) (by decide +kernel))) rfl
theorem mC_X4_restore : Cond.code yX4_restore cX4_restore 1 (some .int) ∈ wU := mU (tb3 (List.mem_of_getElem? (i := 145) (by decide +kernel))) rfl
theorem mL_RL_174 : Cond.methodLink RL 174 yX4_undo ∈ wU := mU (tb3 (List.mem_of_getElem? (i := 146) (by decide +kernel))) rfl
theorem mI_X4_undo : Cond.instanceMethod yX4_undo ∈ wU := mU (tb3 (List.mem_of_getElem? (i := 147) (by decide +kernel))) rfl
theorem mS_X4_undo : Cond.selects RX4 yX4_undo yX4_undo ∈ wU := mU (tb3 (List.mem_of_getElem? (i := 148) (by decide +kernel))) rfl
theorem mC_X4_undo : Cond.code yX4_undo cX4_undo 1 (some .int) ∈ wU := mU (tb3 (List.mem_of_getElem? (i := 149) (by decide +kernel))) rfl
theorem mL_RX4_279 : Cond.methodLink RX4 279 yX1_isEmpty ∈ wU := mU (tb3 (List.mem_of_getElem? (i := 150) (by decide +kernel))) rfl
theorem mI_X1_isEmpty : Cond.instanceMethod yX1_isEmpty ∈ wU := mU (tb3 (List.mem_of_getElem? (i := 151) (by decide +kernel))) rfl
theorem mS_X1_isEmpty : Cond.selects RX1 yX1_isEmpty yX1_isEmpty ∈ wU := mU (tb3 (List.mem_of_getElem? (i := 152) (by decide +kernel))) rfl
theorem mC_X1_isEmpty : Cond.code yX1_isEmpty cX1_isEmpty 1 (some .boolean) ∈ wU := mU (tb3 (List.mem_of_getElem? (i := 153) (by decide +kernel))) rfl
theorem mL_RX4_282 : Cond.methodLink RX4 282 yX1_pop ∈ wU := mU (tb3 (List.mem_of_getElem? (i := 154) (by decide +kernel))) rfl
theorem mI_X1_pop : Cond.instanceMethod yX1_pop ∈ wU := mU (tb3 (List.mem_of_getElem? (i := 155) (by decide +kernel))) rfl
theorem mS_X1_pop : Cond.selects RX1 yX1_pop yX1_pop ∈ wU := mU (tb3 (List.mem_of_getElem? (i := 156) (by decide +kernel))) rfl
theorem mC_X1_pop : Cond.code yX1_pop cX1_pop 3 none ∈ wU := mU (tb3 (List.mem_of_getElem? (i := 157) (by decide +kernel))) rfl
theorem mL_RX4_285 : Cond.methodLink RX4 285 yX1_size ∈ wU := mU (tb3 (List.mem_of_getElem? (i := 158) (by decide +kernel))) rfl
theorem mI_X1_size : Cond.instanceMethod yX1_size ∈ wU := mU (tb3 (List.mem_of_getElem? (i := 159) (by decide +kernel))) rfl
theorem mS_X1_size : Cond.selects RX1 yX1_size yX1_size ∈ wU := mU (tb3 (List.mem_of_getElem? (i := 160) (by decide +kernel))) rfl
theorem mC_X1_size : Cond.code yX1_size cX1_size 1 (some .int) ∈ wU := mU (tb3 (List.mem_of_getElem? (i := 161) (by decide +kernel))) rfl
theorem mN_RL_10 : Cond.classLink RL 10 RX5 ∈ wU := mU (tb3 (List.mem_of_getElem? (i := 162) (by decide +kernel))) rfl
theorem mB_RX5 : Cond.instantiable RX5 11 ∈ wU := mU (tb3 (List.mem_of_getElem? (i := 163) (by decide +kernel))) rfl
theorem mL_RL_12 : Cond.methodLink RL 12 yX5_init ∈ wU := mU (tb3 (List.mem_of_getElem? (i := 164) (by decide +kernel))) rfl
theorem mI_X5_init : Cond.instanceMethod yX5_init ∈ wU := mU (tb3 (List.mem_of_getElem? (i := 165) (by decide +kernel))) rfl
theorem mC_X5_init : Cond.code yX5_init cX5_init 1 none ∈ wU := mU (tb3 (List.mem_of_getElem? (i := 166) (by decide +kernel))) rfl
theorem mL_RX5_5 : Cond.methodLink RX5 5 objectInit ∈ wU := mU (tb3 (List.mem_of_getElem? (i := 167) (by decide +kernel))) rfl
theorem mF_RX5_11 : Cond.fieldLink RX5 11 "LibraryCirculationModel" "now" "[I" ∈ wU := mU (tb3 (List.mem_of_getElem? (i := 168) (by decide +kernel))) rfl
theorem mF_RX5_15 : Cond.fieldLink RX5 15 "LibraryCirculationModel" "before" "[I" ∈ wU := mU (tb3 (List.mem_of_getElem? (i := 169) (by decide +kernel))) rfl
theorem mF_RX5_18 : Cond.fieldLink RX5 18 "LibraryCirculationModel" "image" "[I" ∈ wU := mU (tb3 (List.mem_of_getElem? (i := 170) (by decide +kernel))) rfl
theorem mF_RX5_21 : Cond.fieldLink RX5 21 "LibraryCirculationModel" "changes" "[I" ∈ wU := mU (tb3 (List.mem_of_getElem? (i := 171) (by decide +kernel))) rfl
theorem mF_RX5_24 : Cond.fieldLink RX5 24 "LibraryCirculationModel" "changed" "I" ∈ wU := mU (tb3 (List.mem_of_getElem? (i := 172) (by decide +kernel))) rfl
theorem mF_RX5_28 : Cond.fieldLink RX5 28 "LibraryCirculationModel" "isSaved" "Z" ∈ wU := mU (tb3 (List.mem_of_getElem? (i := 173) (by decide +kernel))) rfl
theorem mF_RX5_32 : Cond.fieldLink RX5 32 "LibraryCirculationModel" "text" "[I" ∈ wU := mU (tb3 (List.mem_of_getElem? (i := 174) (by decide +kernel))) rfl
theorem mF_RX5_35 : Cond.fieldLink RX5 35 "LibraryCirculationModel" "numbers" "[I" ∈ wU := mU (tb3 (List.mem_of_getElem? (i := 175) (by decide +kernel))) rfl
theorem mF_RX5_38 : Cond.fieldLink RX5 38 "LibraryCirculationModel" "fed" "I" ∈ wU := mU (tb3 (List.mem_of_getElem? (i := 176) (by decide +kernel))) rfl
theorem mF_RX5_41 : Cond.fieldLink RX5 41 "LibraryCirculationModel" "at" "I" ∈ wU := mU (tb3 (List.mem_of_getElem? (i := 177) (by decide +kernel))) rfl
theorem mF_RX5_44 : Cond.fieldLink RX5 44 "LibraryCirculationModel" "isWrong" "Z" ∈ wU := mU (tb3 (List.mem_of_getElem? (i := 178) (by decide +kernel))) rfl
theorem mL_RL_17 : Cond.methodLink RL 17 yX5_addCopy ∈ wU := mU (tb3 (List.mem_of_getElem? (i := 202) (by decide +kernel))) rfl
theorem mI_X5_addCopy : Cond.instanceMethod yX5_addCopy ∈ wU := mU (tb3 (List.mem_of_getElem? (i := 203) (by decide +kernel))) rfl
theorem mS_X5_addCopy : Cond.selects RX5 yX5_addCopy yX5_addCopy ∈ wU := mU (tb3 (List.mem_of_getElem? (i := 204) (by decide +kernel))) rfl
theorem mC_X5_addCopy : Cond.code yX5_addCopy cX5_addCopy 5 (some .int) ∈ wU := mU (tb3 (List.mem_of_getElem? (i := 205) (by decide +kernel))) rfl
theorem mL_RX5_89 : Cond.methodLink RX5 89 yX5_isTitle ∈ wU := mU (tb3 (List.mem_of_getElem? (i := 206) (by decide +kernel))) rfl
theorem mT_X5_isTitle : Cond.static yX5_isTitle ∈ wU := mU (tb3 (List.mem_of_getElem? (i := 207) (by decide +kernel))) rfl
theorem mC_X5_isTitle : Cond.code yX5_isTitle cX5_isTitle 1 (some .boolean) ∈ wU := mU (tb3 (List.mem_of_getElem? (i := 208) (by decide +kernel))) rfl
theorem mL_RX5_51 : Cond.methodLink RX5 51 yX5_in ∈ wU := mU (tb3 (List.mem_of_getElem? (i := 209) (by decide +kernel))) rfl
theorem mT_X5_in : Cond.static yX5_in ∈ wU := mU (tb3 (List.mem_of_getElem? (i := 210) (by decide +kernel))) rfl
theorem mC_X5_in : Cond.code yX5_in cX5_in 3 (some .boolean) ∈ wU := mU (tb3 (List.mem_of_getElem? (i := 211) (by decide +kernel))) rfl
theorem mL_RX5_93 : Cond.methodLink RX5 93 yX5_isBranch ∈ wU := mU (tb3 (List.mem_of_getElem? (i := 212) (by decide +kernel))) rfl
theorem mT_X5_isBranch : Cond.static yX5_isBranch ∈ wU := mU (tb3 (List.mem_of_getElem? (i := 213) (by decide +kernel))) rfl
theorem mC_X5_isBranch : Cond.code yX5_isBranch cX5_isBranch 1 (some .boolean) ∈ wU := mU (tb3 (List.mem_of_getElem? (i := 214) (by decide +kernel))) rfl
theorem mL_RX5_96 : Cond.methodLink RX5 96 yX5_keeps ∈ wU := mU (tb3 (List.mem_of_getElem? (i := 215) (by decide +kernel))) rfl
theorem mI_X5_keeps : Cond.instanceMethod yX5_keeps ∈ wU := mU (tb3 (List.mem_of_getElem? (i := 217) (by decide +kernel))) rfl
theorem mC_X5_keeps : Cond.code yX5_keeps cX5_keeps 1 none ∈ wU := mU (tb3 (List.mem_of_getElem? (i := 218) (by decide +kernel))) rfl
theorem mL_RX5_47 : Cond.methodLink RX5 47 yX5_copies ∈ wU := mU (tb3 (List.mem_of_getElem? (i := 219) (by decide +kernel))) rfl
theorem mT_X5_copies : Cond.static yX5_copies ∈ wU := mU (tb3 (List.mem_of_getElem? (i := 220) (by decide +kernel))) rfl
theorem mC_X5_copies : Cond.code yX5_copies cX5_copies 5 none ∈ wU := mU (tb3 (List.mem_of_getElem? (i := 221) (by decide +kernel))) rfl
theorem mL_RX5_55 : Cond.methodLink RX5 55 yX5_puts ∈ wU := mU (tb3 (List.mem_of_getElem? (i := 222) (by decide +kernel))) rfl
theorem mI_X5_puts : Cond.instanceMethod yX5_puts ∈ wU := mU (tb3 (List.mem_of_getElem? (i := 224) (by decide +kernel))) rfl
theorem mC_X5_puts : Cond.code yX5_puts cX5_puts 4 none ∈ wU := mU (tb3 (List.mem_of_getElem? (i := 225) (by decide +kernel))) rfl
theorem mL_RX5_99 : Cond.methodLink RX5 99 yX5_frees ∈ wU := mU (tb3 (List.mem_of_getElem? (i := 226) (by decide +kernel))) rfl
theorem mI_X5_frees : Cond.instanceMethod yX5_frees ∈ wU := mU (tb3 (List.mem_of_getElem? (i := 228) (by decide +kernel))) rfl
theorem mC_X5_frees : Cond.code yX5_frees cX5_frees 5 none ∈ wU := mU (tb3 (List.mem_of_getElem? (i := 229) (by decide +kernel))) rfl
theorem mL_RX5_73 : Cond.methodLink RX5 73 yX5_of ∈ wU := mU (tb3 (List.mem_of_getElem? (i := 230) (by decide +kernel))) rfl
theorem mI_X5_of : Cond.instanceMethod yX5_of ∈ wU := mU (tb3 (List.mem_of_getElem? (i := 232) (by decide +kernel))) rfl
theorem mC_X5_of : Cond.code yX5_of cX5_of 3 (some .int) ∈ wU := mU (tb3 (List.mem_of_getElem? (i := 233) (by decide +kernel))) rfl
theorem mL_RX5_76 : Cond.methodLink RX5 76 yX5_firstWaiting ∈ wU := mU (tb3 (List.mem_of_getElem? (i := 234) (by decide +kernel))) rfl
theorem mI_X5_firstWaiting : Cond.instanceMethod yX5_firstWaiting ∈ wU := mU (tb3 (List.mem_of_getElem? (i := 236) (by decide +kernel))) rfl
theorem mC_X5_firstWaiting : Cond.code yX5_firstWaiting cX5_firstWaiting 3 (some .int) ∈ wU := mU (tb3 (List.mem_of_getElem? (i := 237) (by decide +kernel))) rfl
theorem mL_RX5_59 : Cond.methodLink RX5 59 yX5_hold ∈ wU := mU (tb3 (List.mem_of_getElem? (i := 238) (by decide +kernel))) rfl
theorem mI_X5_hold : Cond.instanceMethod yX5_hold ∈ wU := mU (tb4 (List.mem_of_getElem? (i := 0) (by decide +kernel))) rfl
theorem mC_X5_hold : Cond.code yX5_hold cX5_hold 3 (some .int) ∈ wU := mU (tb4 (List.mem_of_getElem? (i := 1) (by decide +kernel))) rfl
theorem mL_RX5_79 : Cond.methodLink RX5 79 yX5_assigns ∈ wU := mU (tb4 (List.mem_of_getElem? (i := 2) (by decide +kernel))) rfl
theorem mI_X5_assigns : Cond.instanceMethod yX5_assigns ∈ wU := mU (tb4 (List.mem_of_getElem? (i := 4) (by decide +kernel))) rfl
theorem mC_X5_assigns : Cond.code yX5_assigns cX5_assigns 5 none ∈ wU := mU (tb4 (List.mem_of_getElem? (i := 5) (by decide +kernel))) rfl
theorem mL_RX5_63 : Cond.methodLink RX5 63 yX5_turns ∈ wU := mU (tb4 (List.mem_of_getElem? (i := 6) (by decide +kernel))) rfl
theorem mI_X5_turns : Cond.instanceMethod yX5_turns ∈ wU := mU (tb4 (List.mem_of_getElem? (i := 8) (by decide +kernel))) rfl
theorem mC_X5_turns : Cond.code yX5_turns cX5_turns 5 none ∈ wU := mU (tb4 (List.mem_of_getElem? (i := 9) (by decide +kernel))) rfl
theorem mL_RX5_67 : Cond.methodLink RX5 67 ⟨"java/lang/Math", "abs", "(I)I"⟩ ∈ wU := mU (tb4 (List.mem_of_getElem? (i := 10) (by decide +kernel))) rfl
theorem mL_RX5_103 : Cond.methodLink RX5 103 yX5_made ∈ wU := mU (tb4 (List.mem_of_getElem? (i := 11) (by decide +kernel))) rfl
theorem mI_X5_made : Cond.instanceMethod yX5_made ∈ wU := mU (tb4 (List.mem_of_getElem? (i := 13) (by decide +kernel))) rfl
theorem mC_X5_made : Cond.code yX5_made cX5_made 3 (some .int) ∈ wU := mU (tb4 (List.mem_of_getElem? (i := 14) (by decide +kernel))) rfl
theorem mL_RL_22 : Cond.methodLink RL 22 yX5_addPatron ∈ wU := mU (tb4 (List.mem_of_getElem? (i := 15) (by decide +kernel))) rfl
theorem mI_X5_addPatron : Cond.instanceMethod yX5_addPatron ∈ wU := mU (tb4 (List.mem_of_getElem? (i := 16) (by decide +kernel))) rfl
theorem mS_X5_addPatron : Cond.selects RX5 yX5_addPatron yX5_addPatron ∈ wU := mU (tb4 (List.mem_of_getElem? (i := 17) (by decide +kernel))) rfl
theorem mC_X5_addPatron : Cond.code yX5_addPatron cX5_addPatron 3 (some .int) ∈ wU := mU (tb4 (List.mem_of_getElem? (i := 18) (by decide +kernel))) rfl
theorem mL_RL_26 : Cond.methodLink RL 26 yX5_set ∈ wU := mU (tb4 (List.mem_of_getElem? (i := 19) (by decide +kernel))) rfl
theorem mI_X5_set : Cond.instanceMethod yX5_set ∈ wU := mU (tb4 (List.mem_of_getElem? (i := 20) (by decide +kernel))) rfl
theorem mS_X5_set : Cond.selects RX5 yX5_set yX5_set ∈ wU := mU (tb4 (List.mem_of_getElem? (i := 21) (by decide +kernel))) rfl
theorem mC_X5_set : Cond.code yX5_set cX5_set 4 (some .int) ∈ wU := mU (tb4 (List.mem_of_getElem? (i := 22) (by decide +kernel))) rfl
theorem mL_RX5_107 : Cond.methodLink RX5 107 yX5_least ∈ wU := mU (tb4 (List.mem_of_getElem? (i := 23) (by decide +kernel))) rfl
theorem mT_X5_least : Cond.static yX5_least ∈ wU := mU (tb4 (List.mem_of_getElem? (i := 24) (by decide +kernel))) rfl
theorem mC_X5_least : Cond.code yX5_least cX5_least 1 (some .int) ∈ wU := mU (tb4 (List.mem_of_getElem? (i := 25) (by decide +kernel))) rfl
theorem mL_RX5_110 : Cond.methodLink RX5 110 yX5_most ∈ wU := mU (tb4 (List.mem_of_getElem? (i := 26) (by decide +kernel))) rfl
theorem mT_X5_most : Cond.static yX5_most ∈ wU := mU (tb4 (List.mem_of_getElem? (i := 27) (by decide +kernel))) rfl
theorem mC_X5_most : Cond.code yX5_most cX5_most 1 (some .int) ∈ wU := mU (tb4 (List.mem_of_getElem? (i := 28) (by decide +kernel))) rfl
theorem mK_RX5_106 : Cond.constant RX5 106 (100000) ∈ wU := mU (tb4 (List.mem_of_getElem? (i := 29) (by decide +kernel))) rfl
theorem mL_RL_31 : Cond.methodLink RL 31 yX5_setting ∈ wU := mU (tb4 (List.mem_of_getElem? (i := 30) (by decide +kernel))) rfl
theorem mI_X5_setting : Cond.instanceMethod yX5_setting ∈ wU := mU (tb4 (List.mem_of_getElem? (i := 31) (by decide +kernel))) rfl
theorem mS_X5_setting : Cond.selects RX5 yX5_setting yX5_setting ∈ wU := mU (tb4 (List.mem_of_getElem? (i := 32) (by decide +kernel))) rfl
theorem mC_X5_setting : Cond.code yX5_setting cX5_setting 2 (some .int) ∈ wU := mU (tb4 (List.mem_of_getElem? (i := 33) (by decide +kernel))) rfl
theorem mL_RL_36 : Cond.methodLink RL 36 yX5_setFloating ∈ wU := mU (tb4 (List.mem_of_getElem? (i := 34) (by decide +kernel))) rfl
theorem mI_X5_setFloating : Cond.instanceMethod yX5_setFloating ∈ wU := mU (tb4 (List.mem_of_getElem? (i := 35) (by decide +kernel))) rfl
theorem mS_X5_setFloating : Cond.selects RX5 yX5_setFloating yX5_setFloating ∈ wU := mU (tb4 (List.mem_of_getElem? (i := 36) (by decide +kernel))) rfl
theorem mC_X5_setFloating : Cond.code yX5_setFloating cX5_setFloating 4 (some .int) ∈ wU := mU (tb4 (List.mem_of_getElem? (i := 37) (by decide +kernel))) rfl
theorem mL_RX5_113 : Cond.methodLink RX5 113 yX5_isCopy ∈ wU := mU (tb4 (List.mem_of_getElem? (i := 38) (by decide +kernel))) rfl
theorem mI_X5_isCopy : Cond.instanceMethod yX5_isCopy ∈ wU := mU (tb4 (List.mem_of_getElem? (i := 40) (by decide +kernel))) rfl
theorem mC_X5_isCopy : Cond.code yX5_isCopy cX5_isCopy 2 (some .boolean) ∈ wU := mU (tb4 (List.mem_of_getElem? (i := 41) (by decide +kernel))) rfl
theorem mL_RL_40 : Cond.methodLink RL 40 yX5_copyCount ∈ wU := mU (tb4 (List.mem_of_getElem? (i := 42) (by decide +kernel))) rfl
theorem mI_X5_copyCount : Cond.instanceMethod yX5_copyCount ∈ wU := mU (tb4 (List.mem_of_getElem? (i := 43) (by decide +kernel))) rfl
theorem mS_X5_copyCount : Cond.selects RX5 yX5_copyCount yX5_copyCount ∈ wU := mU (tb4 (List.mem_of_getElem? (i := 44) (by decide +kernel))) rfl
theorem mC_X5_copyCount : Cond.code yX5_copyCount cX5_copyCount 4 (some .int) ∈ wU := mU (tb4 (List.mem_of_getElem? (i := 45) (by decide +kernel))) rfl
theorem mL_RL_44 : Cond.methodLink RL 44 yX5_copy ∈ wU := mU (tb4 (List.mem_of_getElem? (i := 46) (by decide +kernel))) rfl
theorem mI_X5_copy : Cond.instanceMethod yX5_copy ∈ wU := mU (tb4 (List.mem_of_getElem? (i := 47) (by decide +kernel))) rfl
theorem mS_X5_copy : Cond.selects RX5 yX5_copy yX5_copy ∈ wU := mU (tb4 (List.mem_of_getElem? (i := 48) (by decide +kernel))) rfl
theorem mC_X5_copy : Cond.code yX5_copy cX5_copy 5 (some .int) ∈ wU := mU (tb4 (List.mem_of_getElem? (i := 49) (by decide +kernel))) rfl
theorem mL_RX5_116 : Cond.methodLink RX5 116 yX5_holdOf ∈ wU := mU (tb4 (List.mem_of_getElem? (i := 50) (by decide +kernel))) rfl
theorem mI_X5_holdOf : Cond.instanceMethod yX5_holdOf ∈ wU := mU (tb4 (List.mem_of_getElem? (i := 52) (by decide +kernel))) rfl
theorem mC_X5_holdOf : Cond.code yX5_holdOf cX5_holdOf 3 (some .int) ∈ wU := mU (tb4 (List.mem_of_getElem? (i := 53) (by decide +kernel))) rfl
theorem mL_RL_48 : Cond.methodLink RL 48 yX5_day ∈ wU := mU (tb4 (List.mem_of_getElem? (i := 54) (by decide +kernel))) rfl
theorem mI_X5_day : Cond.instanceMethod yX5_day ∈ wU := mU (tb4 (List.mem_of_getElem? (i := 55) (by decide +kernel))) rfl
theorem mS_X5_day : Cond.selects RX5 yX5_day yX5_day ∈ wU := mU (tb4 (List.mem_of_getElem? (i := 56) (by decide +kernel))) rfl
theorem mC_X5_day : Cond.code yX5_day cX5_day 1 (some .int) ∈ wU := mU (tb4 (List.mem_of_getElem? (i := 57) (by decide +kernel))) rfl
theorem mL_RL_52 : Cond.methodLink RL 52 yX5_pass ∈ wU := mU (tb4 (List.mem_of_getElem? (i := 58) (by decide +kernel))) rfl
theorem mI_X5_pass : Cond.instanceMethod yX5_pass ∈ wU := mU (tb4 (List.mem_of_getElem? (i := 59) (by decide +kernel))) rfl
theorem mS_X5_pass : Cond.selects RX5 yX5_pass yX5_pass ∈ wU := mU (tb4 (List.mem_of_getElem? (i := 60) (by decide +kernel))) rfl
theorem mC_X5_pass : Cond.code yX5_pass cX5_pass 2 (some .int) ∈ wU := mU (tb4 (List.mem_of_getElem? (i := 61) (by decide +kernel))) rfl
theorem mL_RX5_138 : Cond.methodLink RX5 138 yX5_passes ∈ wU := mU (tb4 (List.mem_of_getElem? (i := 62) (by decide +kernel))) rfl
theorem mI_X5_passes : Cond.instanceMethod yX5_passes ∈ wU := mU (tb4 (List.mem_of_getElem? (i := 64) (by decide +kernel))) rfl
theorem mC_X5_passes : Cond.code yX5_passes cX5_passes 4 (some .int) ∈ wU := mU (tb4 (List.mem_of_getElem? (i := 65) (by decide +kernel))) rfl
theorem mL_RX5_129 : Cond.methodLink RX5 129 yX5_arrive ∈ wU := mU (tb4 (List.mem_of_getElem? (i := 66) (by decide +kernel))) rfl
theorem mI_X5_arrive : Cond.instanceMethod yX5_arrive ∈ wU := mU (tb4 (List.mem_of_getElem? (i := 68) (by decide +kernel))) rfl
theorem mC_X5_arrive : Cond.code yX5_arrive cX5_arrive 2 none ∈ wU := mU (tb4 (List.mem_of_getElem? (i := 69) (by decide +kernel))) rfl
theorem mL_RX5_132 : Cond.methodLink RX5 132 yX5_expire ∈ wU := mU (tb4 (List.mem_of_getElem? (i := 70) (by decide +kernel))) rfl
theorem mI_X5_expire : Cond.instanceMethod yX5_expire ∈ wU := mU (tb4 (List.mem_of_getElem? (i := 72) (by decide +kernel))) rfl
theorem mC_X5_expire : Cond.code yX5_expire cX5_expire 2 none ∈ wU := mU (tb4 (List.mem_of_getElem? (i := 73) (by decide +kernel))) rfl
theorem mL_RX5_119 : Cond.methodLink RX5 119 yX5_removes ∈ wU := mU (tb4 (List.mem_of_getElem? (i := 74) (by decide +kernel))) rfl
theorem mI_X5_removes : Cond.instanceMethod yX5_removes ∈ wU := mU (tb4 (List.mem_of_getElem? (i := 76) (by decide +kernel))) rfl
theorem mC_X5_removes : Cond.code yX5_removes cX5_removes 3 none ∈ wU := mU (tb4 (List.mem_of_getElem? (i := 77) (by decide +kernel))) rfl
theorem mL_RX5_135 : Cond.methodLink RX5 135 yX5_loses ∈ wU := mU (tb4 (List.mem_of_getElem? (i := 78) (by decide +kernel))) rfl
theorem mI_X5_loses : Cond.instanceMethod yX5_loses ∈ wU := mU (tb4 (List.mem_of_getElem? (i := 80) (by decide +kernel))) rfl
theorem mC_X5_loses : Cond.code yX5_loses cX5_loses 2 none ∈ wU := mU (tb4 (List.mem_of_getElem? (i := 81) (by decide +kernel))) rfl
theorem mL_RX5_123 : Cond.methodLink RX5 123 yX5_late ∈ wU := mU (tb4 (List.mem_of_getElem? (i := 82) (by decide +kernel))) rfl
theorem mI_X5_late : Cond.instanceMethod yX5_late ∈ wU := mU (tb4 (List.mem_of_getElem? (i := 84) (by decide +kernel))) rfl
theorem mC_X5_late : Cond.code yX5_late cX5_late 4 (some .int) ∈ wU := mU (tb4 (List.mem_of_getElem? (i := 85) (by decide +kernel))) rfl
theorem mL_RX5_82 : Cond.methodLink RX5 82 ⟨"java/lang/Math", "max", "(II)I"⟩ ∈ wU := mU (tb4 (List.mem_of_getElem? (i := 86) (by decide +kernel))) rfl
theorem mL_RX5_85 : Cond.methodLink RX5 85 ⟨"java/lang/Math", "min", "(JJ)J"⟩ ∈ wU := mU (tb4 (List.mem_of_getElem? (i := 87) (by decide +kernel))) rfl
theorem mL_RX5_126 : Cond.methodLink RX5 126 yX5_owes ∈ wU := mU (tb4 (List.mem_of_getElem? (i := 88) (by decide +kernel))) rfl
theorem mI_X5_owes : Cond.instanceMethod yX5_owes ∈ wU := mU (tb4 (List.mem_of_getElem? (i := 90) (by decide +kernel))) rfl
theorem mC_X5_owes : Cond.code yX5_owes cX5_owes 6 none ∈ wU := mU (tb4 (List.mem_of_getElem? (i := 91) (by decide +kernel))) rfl
theorem mL_RL_56 : Cond.methodLink RL 56 yX5_lend ∈ wU := mU (tb4 (List.mem_of_getElem? (i := 92) (by decide +kernel))) rfl
theorem mI_X5_lend : Cond.instanceMethod yX5_lend ∈ wU := mU (tb4 (List.mem_of_getElem? (i := 93) (by decide +kernel))) rfl
theorem mS_X5_lend : Cond.selects RX5 yX5_lend yX5_lend ∈ wU := mU (tb4 (List.mem_of_getElem? (i := 94) (by decide +kernel))) rfl
theorem mC_X5_lend : Cond.code yX5_lend cX5_lend 3 (some .int) ∈ wU := mU (tb4 (List.mem_of_getElem? (i := 95) (by decide +kernel))) rfl
theorem mL_RX5_153 : Cond.methodLink RX5 153 yX5_lends ∈ wU := mU (tb4 (List.mem_of_getElem? (i := 96) (by decide +kernel))) rfl
theorem mI_X5_lends : Cond.instanceMethod yX5_lends ∈ wU := mU (tb4 (List.mem_of_getElem? (i := 98) (by decide +kernel))) rfl
theorem mC_X5_lends : Cond.code yX5_lends cX5_lends 4 (some .int) ∈ wU := mU (tb4 (List.mem_of_getElem? (i := 99) (by decide +kernel))) rfl
theorem mL_RX5_147 : Cond.methodLink RX5 147 yX5_isPatron ∈ wU := mU (tb4 (List.mem_of_getElem? (i := 100) (by decide +kernel))) rfl
theorem mI_X5_isPatron : Cond.instanceMethod yX5_isPatron ∈ wU := mU (tb4 (List.mem_of_getElem? (i := 102) (by decide +kernel))) rfl
theorem mC_X5_isPatron : Cond.code yX5_isPatron cX5_isPatron 2 (some .boolean) ∈ wU := mU (tb4 (List.mem_of_getElem? (i := 103) (by decide +kernel))) rfl
theorem mL_RX5_150 : Cond.methodLink RX5 150 yX5_reasonToLend ∈ wU := mU (tb4 (List.mem_of_getElem? (i := 104) (by decide +kernel))) rfl
theorem mI_X5_reasonToLend : Cond.instanceMethod yX5_reasonToLend ∈ wU := mU (tb4 (List.mem_of_getElem? (i := 106) (by decide +kernel))) rfl
theorem mC_X5_reasonToLend : Cond.code yX5_reasonToLend cX5_reasonToLend 4 (some .int) ∈ wU := mU (tb4 (List.mem_of_getElem? (i := 107) (by decide +kernel))) rfl
theorem mL_RX5_141 : Cond.methodLink RX5 141 yX5_isBarred ∈ wU := mU (tb4 (List.mem_of_getElem? (i := 108) (by decide +kernel))) rfl
theorem mI_X5_isBarred : Cond.instanceMethod yX5_isBarred ∈ wU := mU (tb4 (List.mem_of_getElem? (i := 110) (by decide +kernel))) rfl
theorem mC_X5_isBarred : Cond.code yX5_isBarred cX5_isBarred 2 (some .boolean) ∈ wU := mU (tb4 (List.mem_of_getElem? (i := 111) (by decide +kernel))) rfl
theorem mL_RX5_144 : Cond.methodLink RX5 144 yX5_loans ∈ wU := mU (tb4 (List.mem_of_getElem? (i := 112) (by decide +kernel))) rfl
theorem mI_X5_loans : Cond.instanceMethod yX5_loans ∈ wU := mU (tb4 (List.mem_of_getElem? (i := 114) (by decide +kernel))) rfl
theorem mC_X5_loans : Cond.code yX5_loans cX5_loans 4 (some .int) ∈ wU := mU (tb4 (List.mem_of_getElem? (i := 115) (by decide +kernel))) rfl
theorem mL_RL_60 : Cond.methodLink RL 60 yX5_bringBack ∈ wU := mU (tb4 (List.mem_of_getElem? (i := 116) (by decide +kernel))) rfl
theorem mI_X5_bringBack : Cond.instanceMethod yX5_bringBack ∈ wU := mU (tb4 (List.mem_of_getElem? (i := 117) (by decide +kernel))) rfl
theorem mS_X5_bringBack : Cond.selects RX5 yX5_bringBack yX5_bringBack ∈ wU := mU (tb4 (List.mem_of_getElem? (i := 118) (by decide +kernel))) rfl
theorem mC_X5_bringBack : Cond.code yX5_bringBack cX5_bringBack 3 (some .int) ∈ wU := mU (tb4 (List.mem_of_getElem? (i := 119) (by decide +kernel))) rfl
theorem mL_RX5_156 : Cond.methodLink RX5 156 yX5_bringsBack ∈ wU := mU (tb4 (List.mem_of_getElem? (i := 120) (by decide +kernel))) rfl
theorem mI_X5_bringsBack : Cond.instanceMethod yX5_bringsBack ∈ wU := mU (tb4 (List.mem_of_getElem? (i := 122) (by decide +kernel))) rfl
theorem mC_X5_bringsBack : Cond.code yX5_bringsBack cX5_bringsBack 5 (some .int) ∈ wU := mU (tb4 (List.mem_of_getElem? (i := 123) (by decide +kernel))) rfl
theorem mL_RL_64 : Cond.methodLink RL 64 yX5_renew ∈ wU := mU (tb4 (List.mem_of_getElem? (i := 124) (by decide +kernel))) rfl
theorem mI_X5_renew : Cond.instanceMethod yX5_renew ∈ wU := mU (tb4 (List.mem_of_getElem? (i := 125) (by decide +kernel))) rfl
theorem mS_X5_renew : Cond.selects RX5 yX5_renew yX5_renew ∈ wU := mU (tb4 (List.mem_of_getElem? (i := 126) (by decide +kernel))) rfl
theorem mC_X5_renew : Cond.code yX5_renew cX5_renew 2 (some .int) ∈ wU := mU (tb4 (List.mem_of_getElem? (i := 127) (by decide +kernel))) rfl
theorem mL_RX5_165 : Cond.methodLink RX5 165 yX5_renews ∈ wU := mU (tb4 (List.mem_of_getElem? (i := 128) (by decide +kernel))) rfl
theorem mI_X5_renews : Cond.instanceMethod yX5_renews ∈ wU := mU (tb4 (List.mem_of_getElem? (i := 130) (by decide +kernel))) rfl
theorem mC_X5_renews : Cond.code yX5_renews cX5_renews 3 (some .int) ∈ wU := mU (tb4 (List.mem_of_getElem? (i := 131) (by decide +kernel))) rfl
theorem mL_RX5_162 : Cond.methodLink RX5 162 yX5_reasonToRenew ∈ wU := mU (tb4 (List.mem_of_getElem? (i := 132) (by decide +kernel))) rfl
theorem mI_X5_reasonToRenew : Cond.instanceMethod yX5_reasonToRenew ∈ wU := mU (tb4 (List.mem_of_getElem? (i := 134) (by decide +kernel))) rfl
theorem mC_X5_reasonToRenew : Cond.code yX5_reasonToRenew cX5_reasonToRenew 2 (some .int) ∈ wU := mU (tb4 (List.mem_of_getElem? (i := 135) (by decide +kernel))) rfl
theorem mL_RX5_159 : Cond.methodLink RX5 159 yX5_waitingFor ∈ wU := mU (tb4 (List.mem_of_getElem? (i := 136) (by decide +kernel))) rfl
theorem mI_X5_waitingFor : Cond.instanceMethod yX5_waitingFor ∈ wU := mU (tb4 (List.mem_of_getElem? (i := 138) (by decide +kernel))) rfl
theorem mC_X5_waitingFor : Cond.code yX5_waitingFor cX5_waitingFor 4 (some .int) ∈ wU := mU (tb4 (List.mem_of_getElem? (i := 139) (by decide +kernel))) rfl
theorem mL_RL_68 : Cond.methodLink RL 68 yX5_claim ∈ wU := mU (tb4 (List.mem_of_getElem? (i := 140) (by decide +kernel))) rfl
theorem mI_X5_claim : Cond.instanceMethod yX5_claim ∈ wU := mU (tb4 (List.mem_of_getElem? (i := 141) (by decide +kernel))) rfl
theorem mS_X5_claim : Cond.selects RX5 yX5_claim yX5_claim ∈ wU := mU (tb4 (List.mem_of_getElem? (i := 142) (by decide +kernel))) rfl
theorem mC_X5_claim : Cond.code yX5_claim cX5_claim 3 (some .int) ∈ wU := mU (tb4 (List.mem_of_getElem? (i := 143) (by decide +kernel))) rfl
theorem mL_RX5_168 : Cond.methodLink RX5 168 yX5_reasonToClaim ∈ wU := mU (tb4 (List.mem_of_getElem? (i := 144) (by decide +kernel))) rfl
theorem mI_X5_reasonToClaim : Cond.instanceMethod yX5_reasonToClaim ∈ wU := mU (tb4 (List.mem_of_getElem? (i := 146) (by decide +kernel))) rfl
theorem mC_X5_reasonToClaim : Cond.code yX5_reasonToClaim cX5_reasonToClaim 2 (some .int) ∈ wU := mU (tb4 (List.mem_of_getElem? (i := 147) (by decide +kernel))) rfl
theorem mL_RL_72 : Cond.methodLink RL 72 yX5_lose ∈ wU := mU (tb4 (List.mem_of_getElem? (i := 148) (by decide +kernel))) rfl
theorem mI_X5_lose : Cond.instanceMethod yX5_lose ∈ wU := mU (tb4 (List.mem_of_getElem? (i := 149) (by decide +kernel))) rfl
theorem mS_X5_lose : Cond.selects RX5 yX5_lose yX5_lose ∈ wU := mU (tb4 (List.mem_of_getElem? (i := 150) (by decide +kernel))) rfl
theorem mC_X5_lose : Cond.code yX5_lose cX5_lose 5 (some .int) ∈ wU := mU (tb4 (List.mem_of_getElem? (i := 151) (by decide +kernel))) rfl
theorem mL_RX5_171 : Cond.methodLink RX5 171 yX5_reasonToLose ∈ wU := mU (tb4 (List.mem_of_getElem? (i := 152) (by decide +kernel))) rfl
theorem mI_X5_reasonToLose : Cond.instanceMethod yX5_reasonToLose ∈ wU := mU (tb4 (List.mem_of_getElem? (i := 154) (by decide +kernel))) rfl
theorem mC_X5_reasonToLose : Cond.code yX5_reasonToLose cX5_reasonToLose 2 (some .int) ∈ wU := mU (tb4 (List.mem_of_getElem? (i := 155) (by decide +kernel))) rfl
theorem mL_RL_77 : Cond.methodLink RL 77 yX5_hold_ ∈ wU := mU (tb4 (List.mem_of_getElem? (i := 156) (by decide +kernel))) rfl
theorem mI_X5_hold_ : Cond.instanceMethod yX5_hold_ ∈ wU := mU (tb4 (List.mem_of_getElem? (i := 157) (by decide +kernel))) rfl
theorem mS_X5_hold_ : Cond.selects RX5 yX5_hold_ yX5_hold_ ∈ wU := mU (tb4 (List.mem_of_getElem? (i := 158) (by decide +kernel))) rfl
theorem mC_X5_hold_ : Cond.code yX5_hold_ cX5_hold_ 4 (some .int) ∈ wU := mU (tb4 (List.mem_of_getElem? (i := 159) (by decide +kernel))) rfl
theorem mL_RX5_188 : Cond.methodLink RX5 188 yX5_laysHold ∈ wU := mU (tb4 (List.mem_of_getElem? (i := 160) (by decide +kernel))) rfl
theorem mI_X5_laysHold : Cond.instanceMethod yX5_laysHold ∈ wU := mU (tb4 (List.mem_of_getElem? (i := 162) (by decide +kernel))) rfl
theorem mC_X5_laysHold : Cond.code yX5_laysHold cX5_laysHold 7 (some .int) ∈ wU := mU (tb4 (List.mem_of_getElem? (i := 163) (by decide +kernel))) rfl
theorem mL_RX5_179 : Cond.methodLink RX5 179 yX5_reasonToHold ∈ wU := mU (tb4 (List.mem_of_getElem? (i := 164) (by decide +kernel))) rfl
theorem mI_X5_reasonToHold : Cond.instanceMethod yX5_reasonToHold ∈ wU := mU (tb4 (List.mem_of_getElem? (i := 166) (by decide +kernel))) rfl
theorem mC_X5_reasonToHold : Cond.code yX5_reasonToHold cX5_reasonToHold 5 (some .int) ∈ wU := mU (tb4 (List.mem_of_getElem? (i := 167) (by decide +kernel))) rfl
theorem mL_RX5_174 : Cond.methodLink RX5 174 yX5_holdBy ∈ wU := mU (tb4 (List.mem_of_getElem? (i := 168) (by decide +kernel))) rfl
theorem mI_X5_holdBy : Cond.instanceMethod yX5_holdBy ∈ wU := mU (tb4 (List.mem_of_getElem? (i := 170) (by decide +kernel))) rfl
theorem mC_X5_holdBy : Cond.code yX5_holdBy cX5_holdBy 4 (some .int) ∈ wU := mU (tb4 (List.mem_of_getElem? (i := 171) (by decide +kernel))) rfl
theorem mL_RX5_182 : Cond.methodLink RX5 182 yX5_nearest ∈ wU := mU (tb4 (List.mem_of_getElem? (i := 172) (by decide +kernel))) rfl
theorem mI_X5_nearest : Cond.instanceMethod yX5_nearest ∈ wU := mU (tb4 (List.mem_of_getElem? (i := 174) (by decide +kernel))) rfl
theorem mC_X5_nearest : Cond.code yX5_nearest cX5_nearest 5 (some .int) ∈ wU := mU (tb4 (List.mem_of_getElem? (i := 175) (by decide +kernel))) rfl
theorem mL_RX5_185 : Cond.methodLink RX5 185 yX5_recalls ∈ wU := mU (tb4 (List.mem_of_getElem? (i := 176) (by decide +kernel))) rfl
theorem mI_X5_recalls : Cond.instanceMethod yX5_recalls ∈ wU := mU (tb4 (List.mem_of_getElem? (i := 178) (by decide +kernel))) rfl
theorem mC_X5_recalls : Cond.code yX5_recalls cX5_recalls 4 none ∈ wU := mU (tb4 (List.mem_of_getElem? (i := 179) (by decide +kernel))) rfl
theorem mL_RX5_177 : Cond.methodLink RX5 177 ⟨"java/lang/Math", "min", "(II)I"⟩ ∈ wU := mU (tb4 (List.mem_of_getElem? (i := 180) (by decide +kernel))) rfl
theorem mL_RL_81 : Cond.methodLink RL 81 yX5_cancelHold ∈ wU := mU (tb4 (List.mem_of_getElem? (i := 181) (by decide +kernel))) rfl
theorem mI_X5_cancelHold : Cond.instanceMethod yX5_cancelHold ∈ wU := mU (tb4 (List.mem_of_getElem? (i := 182) (by decide +kernel))) rfl
theorem mS_X5_cancelHold : Cond.selects RX5 yX5_cancelHold yX5_cancelHold ∈ wU := mU (tb4 (List.mem_of_getElem? (i := 183) (by decide +kernel))) rfl
theorem mC_X5_cancelHold : Cond.code yX5_cancelHold cX5_cancelHold 3 (some .int) ∈ wU := mU (tb4 (List.mem_of_getElem? (i := 184) (by decide +kernel))) rfl
theorem mL_RX5_195 : Cond.methodLink RX5 195 yX5_cancels ∈ wU := mU (tb4 (List.mem_of_getElem? (i := 185) (by decide +kernel))) rfl
theorem mI_X5_cancels : Cond.instanceMethod yX5_cancels ∈ wU := mU (tb4 (List.mem_of_getElem? (i := 187) (by decide +kernel))) rfl
theorem mC_X5_cancels : Cond.code yX5_cancels cX5_cancels 5 (some .int) ∈ wU := mU (tb4 (List.mem_of_getElem? (i := 188) (by decide +kernel))) rfl
theorem mL_RX5_192 : Cond.methodLink RX5 192 yX5_holds ∈ wU := mU (tb4 (List.mem_of_getElem? (i := 189) (by decide +kernel))) rfl
theorem mI_X5_holds : Cond.instanceMethod yX5_holds ∈ wU := mU (tb4 (List.mem_of_getElem? (i := 191) (by decide +kernel))) rfl
theorem mC_X5_holds : Cond.code yX5_holds cX5_holds 4 (some .int) ∈ wU := mU (tb4 (List.mem_of_getElem? (i := 192) (by decide +kernel))) rfl
theorem mL_RL_85 : Cond.methodLink RL 85 yX5_reason ∈ wU := mU (tb4 (List.mem_of_getElem? (i := 193) (by decide +kernel))) rfl
theorem mI_X5_reason : Cond.instanceMethod yX5_reason ∈ wU := mU (tb4 (List.mem_of_getElem? (i := 194) (by decide +kernel))) rfl
theorem mS_X5_reason : Cond.selects RX5 yX5_reason yX5_reason ∈ wU := mU (tb4 (List.mem_of_getElem? (i := 195) (by decide +kernel))) rfl
theorem mC_X5_reason : Cond.code yX5_reason cX5_reason 4 (some .int) ∈ wU := mU (tb4 (List.mem_of_getElem? (i := 196) (by decide +kernel))) rfl
theorem mL_RL_89 : Cond.methodLink RL 89 yX5_holdCount ∈ wU := mU (tb4 (List.mem_of_getElem? (i := 197) (by decide +kernel))) rfl
theorem mI_X5_holdCount : Cond.instanceMethod yX5_holdCount ∈ wU := mU (tb4 (List.mem_of_getElem? (i := 198) (by decide +kernel))) rfl
theorem mS_X5_holdCount : Cond.selects RX5 yX5_holdCount yX5_holdCount ∈ wU := mU (tb4 (List.mem_of_getElem? (i := 199) (by decide +kernel))) rfl
theorem mC_X5_holdCount : Cond.code yX5_holdCount cX5_holdCount 2 (some .int) ∈ wU := mU (tb4 (List.mem_of_getElem? (i := 200) (by decide +kernel))) rfl
theorem mL_RL_93 : Cond.methodLink RL 93 yX5_waiting ∈ wU := mU (tb4 (List.mem_of_getElem? (i := 201) (by decide +kernel))) rfl
theorem mI_X5_waiting : Cond.instanceMethod yX5_waiting ∈ wU := mU (tb4 (List.mem_of_getElem? (i := 202) (by decide +kernel))) rfl
theorem mS_X5_waiting : Cond.selects RX5 yX5_waiting yX5_waiting ∈ wU := mU (tb4 (List.mem_of_getElem? (i := 203) (by decide +kernel))) rfl
theorem mC_X5_waiting : Cond.code yX5_waiting cX5_waiting 2 (some .int) ∈ wU := mU (tb4 (List.mem_of_getElem? (i := 204) (by decide +kernel))) rfl
theorem mL_RL_97 : Cond.methodLink RL 97 yX5_holdAt ∈ wU := mU (tb4 (List.mem_of_getElem? (i := 205) (by decide +kernel))) rfl
theorem mI_X5_holdAt : Cond.instanceMethod yX5_holdAt ∈ wU := mU (tb4 (List.mem_of_getElem? (i := 206) (by decide +kernel))) rfl
theorem mS_X5_holdAt : Cond.selects RX5 yX5_holdAt yX5_holdAt ∈ wU := mU (tb4 (List.mem_of_getElem? (i := 207) (by decide +kernel))) rfl
theorem mC_X5_holdAt : Cond.code yX5_holdAt cX5_holdAt 6 (some .int) ∈ wU := mU (tb4 (List.mem_of_getElem? (i := 208) (by decide +kernel))) rfl
theorem mL_RL_101 : Cond.methodLink RL 101 yX5_place ∈ wU := mU (tb4 (List.mem_of_getElem? (i := 209) (by decide +kernel))) rfl
theorem mI_X5_place : Cond.instanceMethod yX5_place ∈ wU := mU (tb4 (List.mem_of_getElem? (i := 210) (by decide +kernel))) rfl
theorem mS_X5_place : Cond.selects RX5 yX5_place yX5_place ∈ wU := mU (tb4 (List.mem_of_getElem? (i := 211) (by decide +kernel))) rfl
theorem mC_X5_place : Cond.code yX5_place cX5_place 6 (some .int) ∈ wU := mU (tb4 (List.mem_of_getElem? (i := 212) (by decide +kernel))) rfl
theorem mL_RL_105 : Cond.methodLink RL 105 yX5_estimate ∈ wU := mU (tb4 (List.mem_of_getElem? (i := 213) (by decide +kernel))) rfl
theorem mI_X5_estimate : Cond.instanceMethod yX5_estimate ∈ wU := mU (tb4 (List.mem_of_getElem? (i := 214) (by decide +kernel))) rfl
theorem mS_X5_estimate : Cond.selects RX5 yX5_estimate yX5_estimate ∈ wU := mU (tb4 (List.mem_of_getElem? (i := 215) (by decide +kernel))) rfl
theorem mC_X5_estimate : Cond.code yX5_estimate cX5_estimate 10 (some .int) ∈ wU := mU (tb4 (List.mem_of_getElem? (i := 216) (by decide +kernel))) rfl
theorem mL_RX5_198 : Cond.methodLink RX5 198 yX5_freeDay ∈ wU := mU (tb4 (List.mem_of_getElem? (i := 217) (by decide +kernel))) rfl
theorem mI_X5_freeDay : Cond.instanceMethod yX5_freeDay ∈ wU := mU (tb4 (List.mem_of_getElem? (i := 219) (by decide +kernel))) rfl
theorem mC_X5_freeDay : Cond.code yX5_freeDay cX5_freeDay 3 (some .int) ∈ wU := mU (tb4 (List.mem_of_getElem? (i := 220) (by decide +kernel))) rfl
theorem mL_RL_109 : Cond.methodLink RL 109 yX5_patronCount ∈ wU := mU (tb4 (List.mem_of_getElem? (i := 221) (by decide +kernel))) rfl
theorem mI_X5_patronCount : Cond.instanceMethod yX5_patronCount ∈ wU := mU (tb4 (List.mem_of_getElem? (i := 222) (by decide +kernel))) rfl
theorem mS_X5_patronCount : Cond.selects RX5 yX5_patronCount yX5_patronCount ∈ wU := mU (tb4 (List.mem_of_getElem? (i := 223) (by decide +kernel))) rfl
theorem mC_X5_patronCount : Cond.code yX5_patronCount cX5_patronCount 1 (some .int) ∈ wU := mU (tb4 (List.mem_of_getElem? (i := 224) (by decide +kernel))) rfl
theorem mL_RL_113 : Cond.methodLink RL 113 yX5_owes_ ∈ wU := mU (tb4 (List.mem_of_getElem? (i := 225) (by decide +kernel))) rfl
theorem mI_X5_owes_ : Cond.instanceMethod yX5_owes_ ∈ wU := mU (tb4 (List.mem_of_getElem? (i := 226) (by decide +kernel))) rfl
theorem mS_X5_owes_ : Cond.selects RX5 yX5_owes_ yX5_owes_ ∈ wU := mU (tb4 (List.mem_of_getElem? (i := 227) (by decide +kernel))) rfl
theorem mC_X5_owes_ : Cond.code yX5_owes_ cX5_owes_ 2 (some .int) ∈ wU := mU (tb4 (List.mem_of_getElem? (i := 228) (by decide +kernel))) rfl
theorem mL_RL_117 : Cond.methodLink RL 117 yX5_accrued ∈ wU := mU (tb4 (List.mem_of_getElem? (i := 229) (by decide +kernel))) rfl
theorem mI_X5_accrued : Cond.instanceMethod yX5_accrued ∈ wU := mU (tb4 (List.mem_of_getElem? (i := 230) (by decide +kernel))) rfl
theorem mS_X5_accrued : Cond.selects RX5 yX5_accrued yX5_accrued ∈ wU := mU (tb4 (List.mem_of_getElem? (i := 231) (by decide +kernel))) rfl
theorem mC_X5_accrued : Cond.code yX5_accrued cX5_accrued 4 (some .int) ∈ wU := mU (tb4 (List.mem_of_getElem? (i := 232) (by decide +kernel))) rfl
theorem mL_RL_121 : Cond.methodLink RL 121 yX5_patron ∈ wU := mU (tb4 (List.mem_of_getElem? (i := 233) (by decide +kernel))) rfl
theorem mI_X5_patron : Cond.instanceMethod yX5_patron ∈ wU := mU (tb4 (List.mem_of_getElem? (i := 234) (by decide +kernel))) rfl
theorem mS_X5_patron : Cond.selects RX5 yX5_patron yX5_patron ∈ wU := mU (tb4 (List.mem_of_getElem? (i := 235) (by decide +kernel))) rfl
theorem mC_X5_patron : Cond.code yX5_patron cX5_patron 3 (some .int) ∈ wU := mU (tb4 (List.mem_of_getElem? (i := 236) (by decide +kernel))) rfl
theorem mL_RX5_201 : Cond.methodLink RX5 201 yX5_holdsOf ∈ wU := mU (tb4 (List.mem_of_getElem? (i := 237) (by decide +kernel))) rfl
theorem mI_X5_holdsOf : Cond.instanceMethod yX5_holdsOf ∈ wU := mU (tb4 (List.mem_of_getElem? (i := 239) (by decide +kernel))) rfl
theorem mC_X5_holdsOf : Cond.code yX5_holdsOf cX5_holdsOf 4 (some .int) ∈ wU := mU (tb5 (List.mem_of_getElem? (i := 0) (by decide +kernel))) rfl
theorem mL_RX5_204 : Cond.methodLink RX5 204 yX5_overdue ∈ wU := mU (tb5 (List.mem_of_getElem? (i := 1) (by decide +kernel))) rfl
theorem mI_X5_overdue : Cond.instanceMethod yX5_overdue ∈ wU := mU (tb5 (List.mem_of_getElem? (i := 3) (by decide +kernel))) rfl
theorem mC_X5_overdue : Cond.code yX5_overdue cX5_overdue 4 (some .int) ∈ wU := mU (tb5 (List.mem_of_getElem? (i := 4) (by decide +kernel))) rfl
theorem mL_RL_125 : Cond.methodLink RL 125 yX5_loanOf ∈ wU := mU (tb5 (List.mem_of_getElem? (i := 5) (by decide +kernel))) rfl
theorem mI_X5_loanOf : Cond.instanceMethod yX5_loanOf ∈ wU := mU (tb5 (List.mem_of_getElem? (i := 6) (by decide +kernel))) rfl
theorem mS_X5_loanOf : Cond.selects RX5 yX5_loanOf yX5_loanOf ∈ wU := mU (tb5 (List.mem_of_getElem? (i := 7) (by decide +kernel))) rfl
theorem mC_X5_loanOf : Cond.code yX5_loanOf cX5_loanOf 3 (some .int) ∈ wU := mU (tb5 (List.mem_of_getElem? (i := 8) (by decide +kernel))) rfl
theorem mL_RX5_207 : Cond.methodLink RX5 207 yX5_byDate ∈ wU := mU (tb5 (List.mem_of_getElem? (i := 9) (by decide +kernel))) rfl
theorem mI_X5_byDate : Cond.instanceMethod yX5_byDate ∈ wU := mU (tb5 (List.mem_of_getElem? (i := 11) (by decide +kernel))) rfl
theorem mC_X5_byDate : Cond.code yX5_byDate cX5_byDate 8 (some .int) ∈ wU := mU (tb5 (List.mem_of_getElem? (i := 12) (by decide +kernel))) rfl
theorem mL_RL_129 : Cond.methodLink RL 129 yX5_fine ∈ wU := mU (tb5 (List.mem_of_getElem? (i := 13) (by decide +kernel))) rfl
theorem mI_X5_fine : Cond.instanceMethod yX5_fine ∈ wU := mU (tb5 (List.mem_of_getElem? (i := 14) (by decide +kernel))) rfl
theorem mS_X5_fine : Cond.selects RX5 yX5_fine yX5_fine ∈ wU := mU (tb5 (List.mem_of_getElem? (i := 15) (by decide +kernel))) rfl
theorem mC_X5_fine : Cond.code yX5_fine cX5_fine 3 (some .int) ∈ wU := mU (tb5 (List.mem_of_getElem? (i := 16) (by decide +kernel))) rfl
theorem mL_RL_133 : Cond.methodLink RL 133 yX5_pay ∈ wU := mU (tb5 (List.mem_of_getElem? (i := 17) (by decide +kernel))) rfl
theorem mI_X5_pay : Cond.instanceMethod yX5_pay ∈ wU := mU (tb5 (List.mem_of_getElem? (i := 18) (by decide +kernel))) rfl
theorem mS_X5_pay : Cond.selects RX5 yX5_pay yX5_pay ∈ wU := mU (tb5 (List.mem_of_getElem? (i := 19) (by decide +kernel))) rfl
theorem mC_X5_pay : Cond.code yX5_pay cX5_pay 3 (some .int) ∈ wU := mU (tb5 (List.mem_of_getElem? (i := 20) (by decide +kernel))) rfl
theorem mL_RX5_210 : Cond.methodLink RX5 210 yX5_lessens ∈ wU := mU (tb5 (List.mem_of_getElem? (i := 21) (by decide +kernel))) rfl
theorem mI_X5_lessens : Cond.instanceMethod yX5_lessens ∈ wU := mU (tb5 (List.mem_of_getElem? (i := 23) (by decide +kernel))) rfl
theorem mC_X5_lessens : Cond.code yX5_lessens cX5_lessens 4 (some .int) ∈ wU := mU (tb5 (List.mem_of_getElem? (i := 24) (by decide +kernel))) rfl
theorem mL_RL_137 : Cond.methodLink RL 137 yX5_waive ∈ wU := mU (tb5 (List.mem_of_getElem? (i := 25) (by decide +kernel))) rfl
theorem mI_X5_waive : Cond.instanceMethod yX5_waive ∈ wU := mU (tb5 (List.mem_of_getElem? (i := 26) (by decide +kernel))) rfl
theorem mS_X5_waive : Cond.selects RX5 yX5_waive yX5_waive ∈ wU := mU (tb5 (List.mem_of_getElem? (i := 27) (by decide +kernel))) rfl
theorem mC_X5_waive : Cond.code yX5_waive cX5_waive 3 (some .int) ∈ wU := mU (tb5 (List.mem_of_getElem? (i := 28) (by decide +kernel))) rfl
theorem mL_RL_141 : Cond.methodLink RL 141 yX5_ledgerSize ∈ wU := mU (tb5 (List.mem_of_getElem? (i := 29) (by decide +kernel))) rfl
theorem mI_X5_ledgerSize : Cond.instanceMethod yX5_ledgerSize ∈ wU := mU (tb5 (List.mem_of_getElem? (i := 30) (by decide +kernel))) rfl
theorem mS_X5_ledgerSize : Cond.selects RX5 yX5_ledgerSize yX5_ledgerSize ∈ wU := mU (tb5 (List.mem_of_getElem? (i := 31) (by decide +kernel))) rfl
theorem mC_X5_ledgerSize : Cond.code yX5_ledgerSize cX5_ledgerSize 1 (some .int) ∈ wU := mU (tb5 (List.mem_of_getElem? (i := 32) (by decide +kernel))) rfl
theorem mL_RL_145 : Cond.methodLink RL 145 yX5_ledger ∈ wU := mU (tb5 (List.mem_of_getElem? (i := 33) (by decide +kernel))) rfl
theorem mI_X5_ledger : Cond.instanceMethod yX5_ledger ∈ wU := mU (tb5 (List.mem_of_getElem? (i := 34) (by decide +kernel))) rfl
theorem mS_X5_ledger : Cond.selects RX5 yX5_ledger yX5_ledger ∈ wU := mU (tb5 (List.mem_of_getElem? (i := 35) (by decide +kernel))) rfl
theorem mC_X5_ledger : Cond.code yX5_ledger cX5_ledger 3 (some .int) ∈ wU := mU (tb5 (List.mem_of_getElem? (i := 36) (by decide +kernel))) rfl
theorem mK_RX5_213 : Cond.constant RX5 213 (-2147483648) ∈ wU := mU (tb5 (List.mem_of_getElem? (i := 37) (by decide +kernel))) rfl
theorem mL_RL_149 : Cond.methodLink RL 149 yX5_ledgerSum ∈ wU := mU (tb5 (List.mem_of_getElem? (i := 38) (by decide +kernel))) rfl
theorem mI_X5_ledgerSum : Cond.instanceMethod yX5_ledgerSum ∈ wU := mU (tb5 (List.mem_of_getElem? (i := 39) (by decide +kernel))) rfl
theorem mS_X5_ledgerSum : Cond.selects RX5 yX5_ledgerSum yX5_ledgerSum ∈ wU := mU (tb5 (List.mem_of_getElem? (i := 40) (by decide +kernel))) rfl
theorem mC_X5_ledgerSum : Cond.code yX5_ledgerSum cX5_ledgerSum 6 (some .int) ∈ wU := mU (tb5 (List.mem_of_getElem? (i := 41) (by decide +kernel))) rfl
theorem mL_RL_153 : Cond.methodLink RL 153 yX5_shelf ∈ wU := mU (tb5 (List.mem_of_getElem? (i := 42) (by decide +kernel))) rfl
theorem mI_X5_shelf : Cond.instanceMethod yX5_shelf ∈ wU := mU (tb5 (List.mem_of_getElem? (i := 43) (by decide +kernel))) rfl
theorem mS_X5_shelf : Cond.selects RX5 yX5_shelf yX5_shelf ∈ wU := mU (tb5 (List.mem_of_getElem? (i := 44) (by decide +kernel))) rfl
theorem mC_X5_shelf : Cond.code yX5_shelf cX5_shelf 5 (some .int) ∈ wU := mU (tb5 (List.mem_of_getElem? (i := 45) (by decide +kernel))) rfl
theorem mL_RL_157 : Cond.methodLink RL 157 yX5_arriving ∈ wU := mU (tb5 (List.mem_of_getElem? (i := 46) (by decide +kernel))) rfl
theorem mI_X5_arriving : Cond.instanceMethod yX5_arriving ∈ wU := mU (tb5 (List.mem_of_getElem? (i := 47) (by decide +kernel))) rfl
theorem mS_X5_arriving : Cond.selects RX5 yX5_arriving yX5_arriving ∈ wU := mU (tb5 (List.mem_of_getElem? (i := 48) (by decide +kernel))) rfl
theorem mC_X5_arriving : Cond.code yX5_arriving cX5_arriving 3 (some .int) ∈ wU := mU (tb5 (List.mem_of_getElem? (i := 49) (by decide +kernel))) rfl
theorem mL_RL_161 : Cond.methodLink RL 161 yX5_feed ∈ wU := mU (tb5 (List.mem_of_getElem? (i := 50) (by decide +kernel))) rfl
theorem mI_X5_feed : Cond.instanceMethod yX5_feed ∈ wU := mU (tb5 (List.mem_of_getElem? (i := 51) (by decide +kernel))) rfl
theorem mS_X5_feed : Cond.selects RX5 yX5_feed yX5_feed ∈ wU := mU (tb5 (List.mem_of_getElem? (i := 52) (by decide +kernel))) rfl
theorem mC_X5_feed : Cond.code yX5_feed cX5_feed 2 (some .int) ∈ wU := mU (tb5 (List.mem_of_getElem? (i := 53) (by decide +kernel))) rfl
theorem mL_RL_165 : Cond.methodLink RL 165 yX5_execute ∈ wU := mU (tb5 (List.mem_of_getElem? (i := 54) (by decide +kernel))) rfl
theorem mI_X5_execute : Cond.instanceMethod yX5_execute ∈ wU := mU (tb5 (List.mem_of_getElem? (i := 55) (by decide +kernel))) rfl
theorem mS_X5_execute : Cond.selects RX5 yX5_execute yX5_execute ∈ wU := mU (tb5 (List.mem_of_getElem? (i := 56) (by decide +kernel))) rfl
theorem mC_X5_execute : Cond.code yX5_execute cX5_execute 3 (some .int) ∈ wU := mU (tb5 (List.mem_of_getElem? (i := 57) (by decide +kernel))) rfl
theorem mL_RX5_221 : Cond.methodLink RX5 221 yX5_command ∈ wU := mU (tb5 (List.mem_of_getElem? (i := 58) (by decide +kernel))) rfl
theorem mI_X5_command : Cond.instanceMethod yX5_command ∈ wU := mU (tb5 (List.mem_of_getElem? (i := 60) (by decide +kernel))) rfl
theorem mC_X5_command : Cond.code yX5_command cX5_command 4 (some .int) ∈ wU := mU (tb5 (List.mem_of_getElem? (i := 61) (by decide +kernel))) rfl
theorem mL_RX5_214 : Cond.methodLink RX5 214 yX5_sign ∈ wU := mU (tb5 (List.mem_of_getElem? (i := 62) (by decide +kernel))) rfl
theorem mI_X5_sign : Cond.instanceMethod yX5_sign ∈ wU := mU (tb5 (List.mem_of_getElem? (i := 64) (by decide +kernel))) rfl
theorem mC_X5_sign : Cond.code yX5_sign cX5_sign 1 (some .int) ∈ wU := mU (tb5 (List.mem_of_getElem? (i := 65) (by decide +kernel))) rfl
theorem mL_RX5_218 : Cond.methodLink RX5 218 yX5_number ∈ wU := mU (tb5 (List.mem_of_getElem? (i := 66) (by decide +kernel))) rfl
theorem mI_X5_number : Cond.instanceMethod yX5_number ∈ wU := mU (tb5 (List.mem_of_getElem? (i := 68) (by decide +kernel))) rfl
theorem mC_X5_number : Cond.code yX5_number cX5_number 3 (some .int) ∈ wU := mU (tb5 (List.mem_of_getElem? (i := 69) (by decide +kernel))) rfl
theorem mL_RX5_224 : Cond.methodLink RX5 224 yX5_does ∈ wU := mU (tb5 (List.mem_of_getElem? (i := 70) (by decide +kernel))) rfl
theorem mI_X5_does : Cond.instanceMethod yX5_does ∈ wU := mU (tb5 (List.mem_of_getElem? (i := 72) (by decide +kernel))) rfl
theorem mC_X5_does : Cond.code yX5_does cX5_does 2 (some .int) ∈ wU := mU (tb5 (List.mem_of_getElem? (i := 73) (by decide +kernel))) rfl
theorem mL_RL_169 : Cond.methodLink RL 169 yX5_save ∈ wU := mU (tb5 (List.mem_of_getElem? (i := 74) (by decide +kernel))) rfl
theorem mI_X5_save : Cond.instanceMethod yX5_save ∈ wU := mU (tb5 (List.mem_of_getElem? (i := 75) (by decide +kernel))) rfl
theorem mS_X5_save : Cond.selects RX5 yX5_save yX5_save ∈ wU := mU (tb5 (List.mem_of_getElem? (i := 76) (by decide +kernel))) rfl
theorem mC_X5_save : Cond.code yX5_save cX5_save 1 (some .int) ∈ wU := mU (tb5 (List.mem_of_getElem? (i := 77) (by decide +kernel))) rfl
theorem mL_RL_173 : Cond.methodLink RL 173 yX5_restore ∈ wU := mU (tb5 (List.mem_of_getElem? (i := 78) (by decide +kernel))) rfl
theorem mI_X5_restore : Cond.instanceMethod yX5_restore ∈ wU := mU (tb5 (List.mem_of_getElem? (i := 79) (by decide +kernel))) rfl
theorem mS_X5_restore : Cond.selects RX5 yX5_restore yX5_restore ∈ wU := mU (tb5 (List.mem_of_getElem? (i := 80) (by decide +kernel))) rfl
theorem mC_X5_restore : Cond.code yX5_restore cX5_restore 1 (some .int) ∈ wU := mU (tb5 (List.mem_of_getElem? (i := 81) (by decide +kernel))) rfl
theorem mL_RL_177 : Cond.methodLink RL 177 yX5_undo ∈ wU := mU (tb5 (List.mem_of_getElem? (i := 82) (by decide +kernel))) rfl
theorem mI_X5_undo : Cond.instanceMethod yX5_undo ∈ wU := mU (tb5 (List.mem_of_getElem? (i := 83) (by decide +kernel))) rfl
theorem mS_X5_undo : Cond.selects RX5 yX5_undo yX5_undo ∈ wU := mU (tb5 (List.mem_of_getElem? (i := 84) (by decide +kernel))) rfl
theorem mC_X5_undo : Cond.code yX5_undo cX5_undo 1 (some .int) ∈ wU := mU (tb5 (List.mem_of_getElem? (i := 85) (by decide +kernel))) rfl
theorem mS_X4_becomeFree : Cond.selects RX4 yX4_becomeFree yX4_becomeFree ∈ wU := mU (List.mem_append_left _ (List.mem_of_getElem? (i := 0) (by decide +kernel))) rfl
theorem mS_X4_titleOf : Cond.selects RX4 yX4_titleOf yX4_titleOf ∈ wU := mU (List.mem_append_left _ (List.mem_of_getElem? (i := 1) (by decide +kernel))) rfl
theorem mS_X4_firstWaiting : Cond.selects RX4 yX4_firstWaiting yX4_firstWaiting ∈ wU := mU (List.mem_append_left _ (List.mem_of_getElem? (i := 2) (by decide +kernel))) rfl
theorem mS_X4_isWaiting : Cond.selects RX4 yX4_isWaiting yX4_isWaiting ∈ wU := mU (List.mem_append_left _ (List.mem_of_getElem? (i := 3) (by decide +kernel))) rfl
theorem mS_X4_putLoan : Cond.selects RX4 yX4_putLoan yX4_putLoan ∈ wU := mU (List.mem_append_left _ (List.mem_of_getElem? (i := 4) (by decide +kernel))) rfl
theorem mS_X4_putCopy : Cond.selects RX4 yX4_putCopy yX4_putCopy ∈ wU := mU (List.mem_append_left _ (List.mem_of_getElem? (i := 5) (by decide +kernel))) rfl
theorem mS_X4_valueOf : Cond.selects RX4 yX4_valueOf yX4_valueOf ∈ wU := mU (List.mem_append_left _ (List.mem_of_getElem? (i := 6) (by decide +kernel))) rfl
theorem mS_X4_settle : Cond.selects RX4 yX4_settle yX4_settle ∈ wU := mU (List.mem_append_left _ (List.mem_of_getElem? (i := 7) (by decide +kernel))) rfl
theorem mS_X4_commit : Cond.selects RX4 yX4_commit yX4_commit ∈ wU := mU (List.mem_append_left _ (List.mem_of_getElem? (i := 8) (by decide +kernel))) rfl
theorem mS_X1_at : Cond.selects RX1 yX1_at yX1_at ∈ wU := mU (List.mem_append_left _ (List.mem_of_getElem? (i := 9) (by decide +kernel))) rfl
theorem mS_X4_isCopy : Cond.selects RX4 yX4_isCopy yX4_isCopy ∈ wU := mU (List.mem_append_left _ (List.mem_of_getElem? (i := 10) (by decide +kernel))) rfl
theorem mS_X4_stateOf : Cond.selects RX4 yX4_stateOf yX4_stateOf ∈ wU := mU (List.mem_append_left _ (List.mem_of_getElem? (i := 11) (by decide +kernel))) rfl
theorem mS_X4_letPass : Cond.selects RX4 yX4_letPass yX4_letPass ∈ wU := mU (List.mem_append_left _ (List.mem_of_getElem? (i := 12) (by decide +kernel))) rfl
theorem mS_X4_arriveOnThisDay : Cond.selects RX4 yX4_arriveOnThisDay yX4_arriveOnThisDay ∈ wU := mU (List.mem_append_left _ (List.mem_of_getElem? (i := 13) (by decide +kernel))) rfl
theorem mS_X4_expireBeforeThisDay : Cond.selects RX4 yX4_expireBeforeThisDay yX4_expireBeforeThisDay ∈ wU := mU (List.mem_append_left _ (List.mem_of_getElem? (i := 14) (by decide +kernel))) rfl
theorem mS_X4_findHold : Cond.selects RX4 yX4_findHold yX4_findHold ∈ wU := mU (List.mem_append_left _ (List.mem_of_getElem? (i := 15) (by decide +kernel))) rfl
theorem mS_X4_removeHold : Cond.selects RX4 yX4_removeHold yX4_removeHold ∈ wU := mU (List.mem_append_left _ (List.mem_of_getElem? (i := 16) (by decide +kernel))) rfl
theorem mS_X4_endClaims : Cond.selects RX4 yX4_endClaims yX4_endClaims ∈ wU := mU (List.mem_append_left _ (List.mem_of_getElem? (i := 17) (by decide +kernel))) rfl
theorem mS_X4_becomeLost : Cond.selects RX4 yX4_becomeLost yX4_becomeLost ∈ wU := mU (List.mem_append_left _ (List.mem_of_getElem? (i := 18) (by decide +kernel))) rfl
theorem mS_X4_fineOf : Cond.selects RX4 yX4_fineOf yX4_fineOf ∈ wU := mU (List.mem_append_left _ (List.mem_of_getElem? (i := 19) (by decide +kernel))) rfl
theorem mS_X4_enter : Cond.selects RX4 yX4_enter yX4_enter ∈ wU := mU (List.mem_append_left _ (List.mem_of_getElem? (i := 20) (by decide +kernel))) rfl
theorem mS_X4_lendOut : Cond.selects RX4 yX4_lendOut yX4_lendOut ∈ wU := mU (List.mem_append_left _ (List.mem_of_getElem? (i := 21) (by decide +kernel))) rfl
theorem mS_X4_reasonAgainstLending : Cond.selects RX4 yX4_reasonAgainstLending yX4_reasonAgainstLending ∈ wU := mU (List.mem_append_left _ (List.mem_of_getElem? (i := 22) (by decide +kernel))) rfl
theorem mS_X4_isPatron : Cond.selects RX4 yX4_isPatron yX4_isPatron ∈ wU := mU (List.mem_append_left _ (List.mem_of_getElem? (i := 23) (by decide +kernel))) rfl
theorem mS_X4_owesTheLimit : Cond.selects RX4 yX4_owesTheLimit yX4_owesTheLimit ∈ wU := mU (List.mem_append_left _ (List.mem_of_getElem? (i := 24) (by decide +kernel))) rfl
theorem mS_X4_loanCount : Cond.selects RX4 yX4_loanCount yX4_loanCount ∈ wU := mU (List.mem_append_left _ (List.mem_of_getElem? (i := 25) (by decide +kernel))) rfl
theorem mS_X4_isAt : Cond.selects RX4 yX4_isAt yX4_isAt ∈ wU := mU (List.mem_append_left _ (List.mem_of_getElem? (i := 26) (by decide +kernel))) rfl
theorem mS_X4_canBeTakenBy : Cond.selects RX4 yX4_canBeTakenBy yX4_canBeTakenBy ∈ wU := mU (List.mem_append_left _ (List.mem_of_getElem? (i := 27) (by decide +kernel))) rfl
theorem mS_X4_takeBack : Cond.selects RX4 yX4_takeBack yX4_takeBack ∈ wU := mU (List.mem_append_left _ (List.mem_of_getElem? (i := 28) (by decide +kernel))) rfl
theorem mS_X4_isWithPatron : Cond.selects RX4 yX4_isWithPatron yX4_isWithPatron ∈ wU := mU (List.mem_append_left _ (List.mem_of_getElem? (i := 29) (by decide +kernel))) rfl
theorem mS_X4_renewLoan : Cond.selects RX4 yX4_renewLoan yX4_renewLoan ∈ wU := mU (List.mem_append_left _ (List.mem_of_getElem? (i := 30) (by decide +kernel))) rfl
theorem mS_X4_reasonAgainstRenewing : Cond.selects RX4 yX4_reasonAgainstRenewing yX4_reasonAgainstRenewing ∈ wU := mU (List.mem_append_left _ (List.mem_of_getElem? (i := 31) (by decide +kernel))) rfl
theorem mS_X4_reasonAgainstClaiming : Cond.selects RX4 yX4_reasonAgainstClaiming yX4_reasonAgainstClaiming ∈ wU := mU (List.mem_append_left _ (List.mem_of_getElem? (i := 32) (by decide +kernel))) rfl
theorem mS_X4_reasonAgainstLosing : Cond.selects RX4 yX4_reasonAgainstLosing yX4_reasonAgainstLosing ∈ wU := mU (List.mem_append_left _ (List.mem_of_getElem? (i := 33) (by decide +kernel))) rfl
theorem mS_X4_makeHold : Cond.selects RX4 yX4_makeHold yX4_makeHold ∈ wU := mU (List.mem_append_left _ (List.mem_of_getElem? (i := 34) (by decide +kernel))) rfl
theorem mS_X4_reasonAgainstHolding : Cond.selects RX4 yX4_reasonAgainstHolding yX4_reasonAgainstHolding ∈ wU := mU (List.mem_append_left _ (List.mem_of_getElem? (i := 35) (by decide +kernel))) rfl
theorem mS_X4_holdsOf : Cond.selects RX4 yX4_holdsOf yX4_holdsOf ∈ wU := mU (List.mem_append_left _ (List.mem_of_getElem? (i := 36) (by decide +kernel))) rfl
theorem mS_X4_hasLoanOf : Cond.selects RX4 yX4_hasLoanOf yX4_hasLoanOf ∈ wU := mU (List.mem_append_left _ (List.mem_of_getElem? (i := 37) (by decide +kernel))) rfl
theorem mS_X4_nearestOnShelf : Cond.selects RX4 yX4_nearestOnShelf yX4_nearestOnShelf ∈ wU := mU (List.mem_append_left _ (List.mem_of_getElem? (i := 38) (by decide +kernel))) rfl
theorem mS_X4_recallFor : Cond.selects RX4 yX4_recallFor yX4_recallFor ∈ wU := mU (List.mem_append_left _ (List.mem_of_getElem? (i := 39) (by decide +kernel))) rfl
theorem mS_X4_earliestNotRecalled : Cond.selects RX4 yX4_earliestNotRecalled yX4_earliestNotRecalled ∈ wU := mU (List.mem_append_left _ (List.mem_of_getElem? (i := 40) (by decide +kernel))) rfl
theorem mS_X4_waitingBefore : Cond.selects RX4 yX4_waitingBefore yX4_waitingBefore ∈ wU := mU (List.mem_append_left _ (List.mem_of_getElem? (i := 41) (by decide +kernel))) rfl
theorem mS_X4_dropHold : Cond.selects RX4 yX4_dropHold yX4_dropHold ∈ wU := mU (List.mem_append_left _ (List.mem_of_getElem? (i := 42) (by decide +kernel))) rfl
theorem mS_X4_holdsBefore : Cond.selects RX4 yX4_holdsBefore yX4_holdsBefore ∈ wU := mU (List.mem_append_left _ (List.mem_of_getElem? (i := 43) (by decide +kernel))) rfl
theorem mS_X4_expectedDay : Cond.selects RX4 yX4_expectedDay yX4_expectedDay ∈ wU := mU (List.mem_append_left _ (List.mem_of_getElem? (i := 44) (by decide +kernel))) rfl
theorem mS_X4_expectedBefore : Cond.selects RX4 yX4_expectedBefore yX4_expectedBefore ∈ wU := mU (List.mem_append_left _ (List.mem_of_getElem? (i := 45) (by decide +kernel))) rfl
theorem mS_X4_overdueCount : Cond.selects RX4 yX4_overdueCount yX4_overdueCount ∈ wU := mU (List.mem_append_left _ (List.mem_of_getElem? (i := 46) (by decide +kernel))) rfl
theorem mS_X4_nextByDay : Cond.selects RX4 yX4_nextByDay yX4_nextByDay ∈ wU := mU (List.mem_append_left _ (List.mem_of_getElem? (i := 47) (by decide +kernel))) rfl
theorem mS_X4_countBefore : Cond.selects RX4 yX4_countBefore yX4_countBefore ∈ wU := mU (List.mem_append_left _ (List.mem_of_getElem? (i := 48) (by decide +kernel))) rfl
theorem mS_X4_credit : Cond.selects RX4 yX4_credit yX4_credit ∈ wU := mU (List.mem_append_left _ (List.mem_of_getElem? (i := 49) (by decide +kernel))) rfl
theorem mS_X0_readCommand : Cond.selects RX0 yX0_readCommand yX0_readCommand ∈ wU := mU (List.mem_append_left _ (List.mem_of_getElem? (i := 50) (by decide +kernel))) rfl
theorem mS_X0_letterAt : Cond.selects RX0 yX0_letterAt yX0_letterAt ∈ wU := mU (List.mem_append_left _ (List.mem_of_getElem? (i := 51) (by decide +kernel))) rfl
theorem mS_X0_readNumber : Cond.selects RX0 yX0_readNumber yX0_readNumber ∈ wU := mU (List.mem_append_left _ (List.mem_of_getElem? (i := 52) (by decide +kernel))) rfl
theorem mS_X4_runCommand : Cond.selects RX4 yX4_runCommand yX4_runCommand ∈ wU := mU (List.mem_append_left _ (List.mem_of_getElem? (i := 53) (by decide +kernel))) rfl
theorem mS_X5_keeps : Cond.selects RX5 yX5_keeps yX5_keeps ∈ wU := mU (List.mem_append_left _ (List.mem_of_getElem? (i := 54) (by decide +kernel))) rfl
theorem mS_X5_puts : Cond.selects RX5 yX5_puts yX5_puts ∈ wU := mU (List.mem_append_left _ (List.mem_of_getElem? (i := 55) (by decide +kernel))) rfl
theorem mS_X5_frees : Cond.selects RX5 yX5_frees yX5_frees ∈ wU := mU (List.mem_append_left _ (List.mem_of_getElem? (i := 56) (by decide +kernel))) rfl
theorem mS_X5_of : Cond.selects RX5 yX5_of yX5_of ∈ wU := mU (List.mem_append_left _ (List.mem_of_getElem? (i := 57) (by decide +kernel))) rfl
theorem mS_X5_firstWaiting : Cond.selects RX5 yX5_firstWaiting yX5_firstWaiting ∈ wU := mU (List.mem_append_left _ (List.mem_of_getElem? (i := 58) (by decide +kernel))) rfl
theorem mS_X5_hold : Cond.selects RX5 yX5_hold yX5_hold ∈ wU := mU (List.mem_append_left _ (List.mem_of_getElem? (i := 59) (by decide +kernel))) rfl
theorem mS_X5_assigns : Cond.selects RX5 yX5_assigns yX5_assigns ∈ wU := mU (List.mem_append_left _ (List.mem_of_getElem? (i := 60) (by decide +kernel))) rfl
theorem mS_X5_turns : Cond.selects RX5 yX5_turns yX5_turns ∈ wU := mU (List.mem_append_left _ (List.mem_of_getElem? (i := 61) (by decide +kernel))) rfl
theorem mS_X5_made : Cond.selects RX5 yX5_made yX5_made ∈ wU := mU (List.mem_append_left _ (List.mem_of_getElem? (i := 62) (by decide +kernel))) rfl
theorem mS_X5_isCopy : Cond.selects RX5 yX5_isCopy yX5_isCopy ∈ wU := mU (List.mem_append_left _ (List.mem_of_getElem? (i := 63) (by decide +kernel))) rfl
theorem mS_X5_holdOf : Cond.selects RX5 yX5_holdOf yX5_holdOf ∈ wU := mU (List.mem_append_left _ (List.mem_of_getElem? (i := 64) (by decide +kernel))) rfl
theorem mS_X5_passes : Cond.selects RX5 yX5_passes yX5_passes ∈ wU := mU (List.mem_append_left _ (List.mem_of_getElem? (i := 65) (by decide +kernel))) rfl
theorem mS_X5_arrive : Cond.selects RX5 yX5_arrive yX5_arrive ∈ wU := mU (List.mem_append_left _ (List.mem_of_getElem? (i := 66) (by decide +kernel))) rfl
theorem mS_X5_expire : Cond.selects RX5 yX5_expire yX5_expire ∈ wU := mU (List.mem_append_left _ (List.mem_of_getElem? (i := 67) (by decide +kernel))) rfl
theorem mS_X5_removes : Cond.selects RX5 yX5_removes yX5_removes ∈ wU := mU (List.mem_append_left _ (List.mem_of_getElem? (i := 68) (by decide +kernel))) rfl
theorem mS_X5_loses : Cond.selects RX5 yX5_loses yX5_loses ∈ wU := mU (List.mem_append_left _ (List.mem_of_getElem? (i := 69) (by decide +kernel))) rfl
theorem mS_X5_late : Cond.selects RX5 yX5_late yX5_late ∈ wU := mU (List.mem_append_left _ (List.mem_of_getElem? (i := 70) (by decide +kernel))) rfl
theorem mS_X5_owes : Cond.selects RX5 yX5_owes yX5_owes ∈ wU := mU (List.mem_append_left _ (List.mem_of_getElem? (i := 71) (by decide +kernel))) rfl
theorem mS_X5_lends : Cond.selects RX5 yX5_lends yX5_lends ∈ wU := mU (List.mem_append_left _ (List.mem_of_getElem? (i := 72) (by decide +kernel))) rfl
theorem mS_X5_isPatron : Cond.selects RX5 yX5_isPatron yX5_isPatron ∈ wU := mU (List.mem_append_left _ (List.mem_of_getElem? (i := 73) (by decide +kernel))) rfl
theorem mS_X5_reasonToLend : Cond.selects RX5 yX5_reasonToLend yX5_reasonToLend ∈ wU := mU (List.mem_append_left _ (List.mem_of_getElem? (i := 74) (by decide +kernel))) rfl
theorem mS_X5_isBarred : Cond.selects RX5 yX5_isBarred yX5_isBarred ∈ wU := mU (List.mem_append_left _ (List.mem_of_getElem? (i := 75) (by decide +kernel))) rfl
theorem mS_X5_loans : Cond.selects RX5 yX5_loans yX5_loans ∈ wU := mU (List.mem_append_left _ (List.mem_of_getElem? (i := 76) (by decide +kernel))) rfl
theorem mS_X5_bringsBack : Cond.selects RX5 yX5_bringsBack yX5_bringsBack ∈ wU := mU (List.mem_append_left _ (List.mem_of_getElem? (i := 77) (by decide +kernel))) rfl
theorem mS_X5_renews : Cond.selects RX5 yX5_renews yX5_renews ∈ wU := mU (List.mem_append_left _ (List.mem_of_getElem? (i := 78) (by decide +kernel))) rfl
theorem mS_X5_reasonToRenew : Cond.selects RX5 yX5_reasonToRenew yX5_reasonToRenew ∈ wU := mU (List.mem_append_left _ (List.mem_of_getElem? (i := 79) (by decide +kernel))) rfl
theorem mS_X5_waitingFor : Cond.selects RX5 yX5_waitingFor yX5_waitingFor ∈ wU := mU (List.mem_append_left _ (List.mem_of_getElem? (i := 80) (by decide +kernel))) rfl
theorem mS_X5_reasonToClaim : Cond.selects RX5 yX5_reasonToClaim yX5_reasonToClaim ∈ wU := mU (List.mem_append_left _ (List.mem_of_getElem? (i := 81) (by decide +kernel))) rfl
theorem mS_X5_reasonToLose : Cond.selects RX5 yX5_reasonToLose yX5_reasonToLose ∈ wU := mU (List.mem_append_left _ (List.mem_of_getElem? (i := 82) (by decide +kernel))) rfl
theorem mS_X5_laysHold : Cond.selects RX5 yX5_laysHold yX5_laysHold ∈ wU := mU (List.mem_append_left _ (List.mem_of_getElem? (i := 83) (by decide +kernel))) rfl
theorem mS_X5_reasonToHold : Cond.selects RX5 yX5_reasonToHold yX5_reasonToHold ∈ wU := mU (List.mem_append_left _ (List.mem_of_getElem? (i := 84) (by decide +kernel))) rfl
theorem mS_X5_holdBy : Cond.selects RX5 yX5_holdBy yX5_holdBy ∈ wU := mU (List.mem_append_left _ (List.mem_of_getElem? (i := 85) (by decide +kernel))) rfl
theorem mS_X5_nearest : Cond.selects RX5 yX5_nearest yX5_nearest ∈ wU := mU (List.mem_append_left _ (List.mem_of_getElem? (i := 86) (by decide +kernel))) rfl
theorem mS_X5_recalls : Cond.selects RX5 yX5_recalls yX5_recalls ∈ wU := mU (List.mem_append_left _ (List.mem_of_getElem? (i := 87) (by decide +kernel))) rfl
theorem mS_X5_cancels : Cond.selects RX5 yX5_cancels yX5_cancels ∈ wU := mU (List.mem_append_left _ (List.mem_of_getElem? (i := 88) (by decide +kernel))) rfl
theorem mS_X5_holds : Cond.selects RX5 yX5_holds yX5_holds ∈ wU := mU (List.mem_append_left _ (List.mem_of_getElem? (i := 89) (by decide +kernel))) rfl
theorem mS_X5_freeDay : Cond.selects RX5 yX5_freeDay yX5_freeDay ∈ wU := mU (List.mem_append_left _ (List.mem_of_getElem? (i := 90) (by decide +kernel))) rfl
theorem mS_X5_holdsOf : Cond.selects RX5 yX5_holdsOf yX5_holdsOf ∈ wU := mU (List.mem_append_left _ (List.mem_of_getElem? (i := 91) (by decide +kernel))) rfl
theorem mS_X5_overdue : Cond.selects RX5 yX5_overdue yX5_overdue ∈ wU := mU (List.mem_append_left _ (List.mem_of_getElem? (i := 92) (by decide +kernel))) rfl
theorem mS_X5_byDate : Cond.selects RX5 yX5_byDate yX5_byDate ∈ wU := mU (List.mem_append_left _ (List.mem_of_getElem? (i := 93) (by decide +kernel))) rfl
theorem mS_X5_lessens : Cond.selects RX5 yX5_lessens yX5_lessens ∈ wU := mU (List.mem_append_left _ (List.mem_of_getElem? (i := 94) (by decide +kernel))) rfl
theorem mS_X5_command : Cond.selects RX5 yX5_command yX5_command ∈ wU := mU (List.mem_append_left _ (List.mem_of_getElem? (i := 95) (by decide +kernel))) rfl
theorem mS_X5_sign : Cond.selects RX5 yX5_sign yX5_sign ∈ wU := mU (List.mem_append_left _ (List.mem_of_getElem? (i := 96) (by decide +kernel))) rfl
theorem mS_X5_number : Cond.selects RX5 yX5_number yX5_number ∈ wU := mU (List.mem_append_left _ (List.mem_of_getElem? (i := 97) (by decide +kernel))) rfl
theorem mS_X5_does : Cond.selects RX5 yX5_does yX5_does ∈ wU := mU (List.mem_append_left _ (List.mem_of_getElem? (i := 98) (by decide +kernel))) rfl
end
section
theorem dX0_init_0 : decode cX0_init 0 = .ok (.aload_n 0, 1) := by decide +kernel
theorem dX0_init_1 : decode cX0_init 1 = .ok (.invokespecial 5, 3) := by decide +kernel
theorem dX0_init_4 : decode cX0_init 4 = .ok (.aload_n 0, 1) := by decide +kernel
theorem dX0_init_5 : decode cX0_init 5 = .ok (.bipush 60, 2) := by decide +kernel
theorem dX0_init_7 : decode cX0_init 7 = .ok (.newarray .int, 2) := by decide +kernel
theorem dX0_init_9 : decode cX0_init 9 = .ok (.putfield 11, 3) := by decide +kernel
theorem dX0_init_12 : decode cX0_init 12 = .ok (.aload_n 0, 1) := by decide +kernel
theorem dX0_init_13 : decode cX0_init 13 = .ok (.iconst 0, 1) := by decide +kernel
theorem dX0_init_14 : decode cX0_init 14 = .ok (.putfield 15, 3) := by decide +kernel
theorem dX0_init_17 : decode cX0_init 17 = .ok (.aload_n 0, 1) := by decide +kernel
theorem dX0_init_18 : decode cX0_init 18 = .ok (.iconst 0, 1) := by decide +kernel
theorem dX0_init_19 : decode cX0_init 19 = .ok (.putfield 19, 3) := by decide +kernel
theorem dX0_init_22 : decode cX0_init 22 = .ok (.aload_n 0, 1) := by decide +kernel
theorem dX0_init_23 : decode cX0_init 23 = .ok (.new 22, 3) := by decide +kernel
theorem dX0_init_26 : decode cX0_init 26 = .ok (.dup, 1) := by decide +kernel
theorem dX0_init_27 : decode cX0_init 27 = .ok (.bipush 15, 2) := by decide +kernel
theorem dX0_init_29 : decode cX0_init 29 = .ok (.iconst 4, 1) := by decide +kernel
theorem dX0_init_30 : decode cX0_init 30 = .ok (.invokespecial 24, 3) := by decide +kernel
theorem dX0_init_33 : decode cX0_init 33 = .ok (.putfield 27, 3) := by decide +kernel
theorem dX0_init_36 : decode cX0_init 36 = .ok (.return_, 1) := by decide +kernel
theorem dX0_append_0 : decode cX0_append 0 = .ok (.aload_n 0, 1) := by decide +kernel
theorem dX0_append_1 : decode cX0_append 1 = .ok (.getfield 15, 3) := by decide +kernel
theorem dX0_append_4 : decode cX0_append 4 = .ok (.ifCond .lt 15, 3) := by decide +kernel
theorem dX0_append_7 : decode cX0_append 7 = .ok (.aload_n 0, 1) := by decide +kernel
theorem dX0_append_8 : decode cX0_append 8 = .ok (.getfield 15, 3) := by decide +kernel
theorem dX0_append_11 : decode cX0_append 11 = .ok (.aload_n 0, 1) := by decide +kernel
theorem dX0_append_12 : decode cX0_append 12 = .ok (.getfield 11, 3) := by decide +kernel
theorem dX0_append_15 : decode cX0_append 15 = .ok (.arraylength, 1) := by decide +kernel
theorem dX0_append_16 : decode cX0_append 16 = .ok (.if_icmp .lt 6, 3) := by decide +kernel
theorem dX0_append_19 : decode cX0_append 19 = .ok (.bipush (-3), 2) := by decide +kernel
theorem dX0_append_21 : decode cX0_append 21 = .ok (.ireturn, 1) := by decide +kernel
theorem dX0_append_22 : decode cX0_append 22 = .ok (.aload_n 0, 1) := by decide +kernel
theorem dX0_append_23 : decode cX0_append 23 = .ok (.getfield 11, 3) := by decide +kernel
theorem dX0_append_26 : decode cX0_append 26 = .ok (.aload_n 0, 1) := by decide +kernel
theorem dX0_append_27 : decode cX0_append 27 = .ok (.getfield 15, 3) := by decide +kernel
theorem dX0_append_30 : decode cX0_append 30 = .ok (.iload_n 1, 1) := by decide +kernel
theorem dX0_append_31 : decode cX0_append 31 = .ok (.iastore, 1) := by decide +kernel
theorem dX0_append_32 : decode cX0_append 32 = .ok (.aload_n 0, 1) := by decide +kernel
theorem dX0_append_33 : decode cX0_append 33 = .ok (.dup, 1) := by decide +kernel
theorem dX0_append_34 : decode cX0_append 34 = .ok (.getfield 15, 3) := by decide +kernel
theorem dX0_append_37 : decode cX0_append 37 = .ok (.iconst 1, 1) := by decide +kernel
theorem dX0_append_38 : decode cX0_append 38 = .ok (.iadd, 1) := by decide +kernel
theorem dX0_append_39 : decode cX0_append 39 = .ok (.putfield 15, 3) := by decide +kernel
theorem dX0_append_42 : decode cX0_append 42 = .ok (.aload_n 0, 1) := by decide +kernel
theorem dX0_append_43 : decode cX0_append 43 = .ok (.getfield 15, 3) := by decide +kernel
theorem dX0_append_46 : decode cX0_append 46 = .ok (.ireturn, 1) := by decide +kernel
theorem dX0_emptyBuffer_0 : decode cX0_emptyBuffer 0 = .ok (.aload_n 0, 1) := by decide +kernel
theorem dX0_emptyBuffer_1 : decode cX0_emptyBuffer 1 = .ok (.iconst 0, 1) := by decide +kernel
theorem dX0_emptyBuffer_2 : decode cX0_emptyBuffer 2 = .ok (.putfield 15, 3) := by decide +kernel
theorem dX0_emptyBuffer_5 : decode cX0_emptyBuffer 5 = .ok (.return_, 1) := by decide +kernel
theorem dX0_commandCount_0 : decode cX0_commandCount 0 = .ok (.aload_n 0, 1) := by decide +kernel
theorem dX0_commandCount_1 : decode cX0_commandCount 1 = .ok (.getfield 27, 3) := by decide +kernel
theorem dX0_commandCount_4 : decode cX0_commandCount 4 = .ok (.invokevirtual 31, 3) := by decide +kernel
theorem dX0_commandCount_7 : decode cX0_commandCount 7 = .ok (.ireturn, 1) := by decide +kernel
theorem dX0_letter_0 : decode cX0_letter 0 = .ok (.aload_n 0, 1) := by decide +kernel
theorem dX0_letter_1 : decode cX0_letter 1 = .ok (.getfield 27, 3) := by decide +kernel
theorem dX0_letter_4 : decode cX0_letter 4 = .ok (.iload_n 1, 1) := by decide +kernel
theorem dX0_letter_5 : decode cX0_letter 5 = .ok (.iconst 0, 1) := by decide +kernel
theorem dX0_letter_6 : decode cX0_letter 6 = .ok (.invokevirtual 35, 3) := by decide +kernel
theorem dX0_letter_9 : decode cX0_letter 9 = .ok (.ireturn, 1) := by decide +kernel
theorem dX0_number_0 : decode cX0_number 0 = .ok (.aload_n 0, 1) := by decide +kernel
theorem dX0_number_1 : decode cX0_number 1 = .ok (.getfield 27, 3) := by decide +kernel
theorem dX0_number_4 : decode cX0_number 4 = .ok (.iload_n 1, 1) := by decide +kernel
theorem dX0_number_5 : decode cX0_number 5 = .ok (.iconst 1, 1) := by decide +kernel
theorem dX0_number_6 : decode cX0_number 6 = .ok (.iload_n 2, 1) := by decide +kernel
theorem dX0_number_7 : decode cX0_number 7 = .ok (.iadd, 1) := by decide +kernel
theorem dX0_number_8 : decode cX0_number 8 = .ok (.invokevirtual 35, 3) := by decide +kernel
theorem dX0_number_11 : decode cX0_number 11 = .ok (.ireturn, 1) := by decide +kernel
theorem dX0_position_0 : decode cX0_position 0 = .ok (.aload_n 0, 1) := by decide +kernel
theorem dX0_position_1 : decode cX0_position 1 = .ok (.getfield 19, 3) := by decide +kernel
theorem dX0_position_4 : decode cX0_position 4 = .ok (.ireturn, 1) := by decide +kernel
theorem dX0_readAll_0 : decode cX0_readAll 0 = .ok (.aload_n 0, 1) := by decide +kernel
theorem dX0_readAll_1 : decode cX0_readAll 1 = .ok (.getfield 27, 3) := by decide +kernel
theorem dX0_readAll_4 : decode cX0_readAll 4 = .ok (.invokevirtual 39, 3) := by decide +kernel
theorem dX0_readAll_7 : decode cX0_readAll 7 = .ok (.aload_n 0, 1) := by decide +kernel
theorem dX0_readAll_8 : decode cX0_readAll 8 = .ok (.iconst 0, 1) := by decide +kernel
theorem dX0_readAll_9 : decode cX0_readAll 9 = .ok (.putfield 19, 3) := by decide +kernel
theorem dX0_readAll_12 : decode cX0_readAll 12 = .ok (.iconst 0, 1) := by decide +kernel
theorem dX0_readAll_13 : decode cX0_readAll 13 = .ok (.istore_n 1, 1) := by decide +kernel
theorem dX0_readAll_14 : decode cX0_readAll 14 = .ok (.iload_n 1, 1) := by decide +kernel
theorem dX0_readAll_15 : decode cX0_readAll 15 = .ok (.bipush 15, 2) := by decide +kernel
theorem dX0_readAll_17 : decode cX0_readAll 17 = .ok (.if_icmp .ge 56, 3) := by decide +kernel
theorem dX0_readAll_20 : decode cX0_readAll 20 = .ok (.aload_n 0, 1) := by decide +kernel
theorem dX0_readAll_21 : decode cX0_readAll 21 = .ok (.invokevirtual 42, 3) := by decide +kernel
theorem dX0_readAll_24 : decode cX0_readAll 24 = .ok (.ifCond .ne 5, 3) := by decide +kernel
theorem dX0_readAll_27 : decode cX0_readAll 27 = .ok (.iconst 0, 1) := by decide +kernel
theorem dX0_readAll_28 : decode cX0_readAll 28 = .ok (.ireturn, 1) := by decide +kernel
theorem dX0_readAll_29 : decode cX0_readAll 29 = .ok (.aload_n 0, 1) := by decide +kernel
theorem dX0_readAll_30 : decode cX0_readAll 30 = .ok (.getfield 19, 3) := by decide +kernel
theorem dX0_readAll_33 : decode cX0_readAll 33 = .ok (.aload_n 0, 1) := by decide +kernel
theorem dX0_readAll_34 : decode cX0_readAll 34 = .ok (.getfield 15, 3) := by decide +kernel
theorem dX0_readAll_37 : decode cX0_readAll 37 = .ok (.if_icmp .ne 5, 3) := by decide +kernel
theorem dX0_readAll_40 : decode cX0_readAll 40 = .ok (.iconst 1, 1) := by decide +kernel
theorem dX0_readAll_41 : decode cX0_readAll 41 = .ok (.ireturn, 1) := by decide +kernel
theorem dX0_readAll_42 : decode cX0_readAll 42 = .ok (.aload_n 0, 1) := by decide +kernel
theorem dX0_readAll_43 : decode cX0_readAll 43 = .ok (.aload_n 0, 1) := by decide +kernel
theorem dX0_readAll_44 : decode cX0_readAll 44 = .ok (.getfield 19, 3) := by decide +kernel
theorem dX0_readAll_47 : decode cX0_readAll 47 = .ok (.invokevirtual 46, 3) := by decide +kernel
theorem dX0_readAll_50 : decode cX0_readAll 50 = .ok (.bipush 59, 2) := by decide +kernel
theorem dX0_readAll_52 : decode cX0_readAll 52 = .ok (.if_icmp .eq 5, 3) := by decide +kernel
theorem dX0_readAll_55 : decode cX0_readAll 55 = .ok (.iconst 0, 1) := by decide +kernel
theorem dX0_readAll_56 : decode cX0_readAll 56 = .ok (.ireturn, 1) := by decide +kernel
theorem dX0_readAll_57 : decode cX0_readAll 57 = .ok (.aload_n 0, 1) := by decide +kernel
theorem dX0_readAll_58 : decode cX0_readAll 58 = .ok (.dup, 1) := by decide +kernel
theorem dX0_readAll_59 : decode cX0_readAll 59 = .ok (.getfield 19, 3) := by decide +kernel
theorem dX0_readAll_62 : decode cX0_readAll 62 = .ok (.iconst 1, 1) := by decide +kernel
theorem dX0_readAll_63 : decode cX0_readAll 63 = .ok (.iadd, 1) := by decide +kernel
theorem dX0_readAll_64 : decode cX0_readAll 64 = .ok (.putfield 19, 3) := by decide +kernel
theorem dX0_readAll_67 : decode cX0_readAll 67 = .ok (.iinc 1 1, 3) := by decide +kernel
theorem dX0_readAll_70 : decode cX0_readAll 70 = .ok (.goto (-56), 3) := by decide +kernel
theorem dX0_readAll_73 : decode cX0_readAll 73 = .ok (.iconst 0, 1) := by decide +kernel
theorem dX0_readAll_74 : decode cX0_readAll 74 = .ok (.ireturn, 1) := by decide +kernel
theorem dX0_readCommand_0 : decode cX0_readCommand 0 = .ok (.aload_n 0, 1) := by decide +kernel
theorem dX0_readCommand_1 : decode cX0_readCommand 1 = .ok (.aload_n 0, 1) := by decide +kernel
theorem dX0_readCommand_2 : decode cX0_readCommand 2 = .ok (.getfield 19, 3) := by decide +kernel
theorem dX0_readCommand_5 : decode cX0_readCommand 5 = .ok (.invokevirtual 46, 3) := by decide +kernel
theorem dX0_readCommand_8 : decode cX0_readCommand 8 = .ok (.istore_n 1, 1) := by decide +kernel
theorem dX0_readCommand_9 : decode cX0_readCommand 9 = .ok (.iload_n 1, 1) := by decide +kernel
theorem dX0_readCommand_10 : decode cX0_readCommand 10 = .ok (.invokestatic 50, 3) := by decide +kernel
theorem dX0_readCommand_13 : decode cX0_readCommand 13 = .ok (.istore_n 2, 1) := by decide +kernel
theorem dX0_readCommand_14 : decode cX0_readCommand 14 = .ok (.iload_n 2, 1) := by decide +kernel
theorem dX0_readCommand_15 : decode cX0_readCommand 15 = .ok (.ifCond .ne 5, 3) := by decide +kernel
theorem dX0_readCommand_18 : decode cX0_readCommand 18 = .ok (.iconst 0, 1) := by decide +kernel
theorem dX0_readCommand_19 : decode cX0_readCommand 19 = .ok (.ireturn, 1) := by decide +kernel
theorem dX0_readCommand_20 : decode cX0_readCommand 20 = .ok (.aload_n 0, 1) := by decide +kernel
theorem dX0_readCommand_21 : decode cX0_readCommand 21 = .ok (.getfield 27, 3) := by decide +kernel
theorem dX0_readCommand_24 : decode cX0_readCommand 24 = .ok (.invokevirtual 53, 3) := by decide +kernel
theorem dX0_readCommand_27 : decode cX0_readCommand 27 = .ok (.istore_n 3, 1) := by decide +kernel
theorem dX0_readCommand_28 : decode cX0_readCommand 28 = .ok (.aload_n 0, 1) := by decide +kernel
theorem dX0_readCommand_29 : decode cX0_readCommand 29 = .ok (.getfield 27, 3) := by decide +kernel
theorem dX0_readCommand_32 : decode cX0_readCommand 32 = .ok (.iload_n 3, 1) := by decide +kernel
theorem dX0_readCommand_33 : decode cX0_readCommand 33 = .ok (.iconst 0, 1) := by decide +kernel
theorem dX0_readCommand_34 : decode cX0_readCommand 34 = .ok (.iload_n 1, 1) := by decide +kernel
theorem dX0_readCommand_35 : decode cX0_readCommand 35 = .ok (.invokevirtual 56, 3) := by decide +kernel
theorem dX0_readCommand_38 : decode cX0_readCommand 38 = .ok (.aload_n 0, 1) := by decide +kernel
theorem dX0_readCommand_39 : decode cX0_readCommand 39 = .ok (.dup, 1) := by decide +kernel
theorem dX0_readCommand_40 : decode cX0_readCommand 40 = .ok (.getfield 19, 3) := by decide +kernel
theorem dX0_readCommand_43 : decode cX0_readCommand 43 = .ok (.iconst 1, 1) := by decide +kernel
theorem dX0_readCommand_44 : decode cX0_readCommand 44 = .ok (.iadd, 1) := by decide +kernel
theorem dX0_readCommand_45 : decode cX0_readCommand 45 = .ok (.putfield 19, 3) := by decide +kernel
theorem dX0_readCommand_48 : decode cX0_readCommand 48 = .ok (.iconst 0, 1) := by decide +kernel
theorem dX0_readCommand_49 : decode cX0_readCommand 49 = .ok (.istore 4, 2) := by decide +kernel
theorem dX0_readCommand_51 : decode cX0_readCommand 51 = .ok (.iload 4, 2) := by decide +kernel
theorem dX0_readCommand_53 : decode cX0_readCommand 53 = .ok (.iload_n 2, 1) := by decide +kernel
theorem dX0_readCommand_54 : decode cX0_readCommand 54 = .ok (.if_icmp .ge 23, 3) := by decide +kernel
theorem dX0_readCommand_57 : decode cX0_readCommand 57 = .ok (.aload_n 0, 1) := by decide +kernel
theorem dX0_readCommand_58 : decode cX0_readCommand 58 = .ok (.iload_n 3, 1) := by decide +kernel
theorem dX0_readCommand_59 : decode cX0_readCommand 59 = .ok (.iconst 1, 1) := by decide +kernel
theorem dX0_readCommand_60 : decode cX0_readCommand 60 = .ok (.iload 4, 2) := by decide +kernel
theorem dX0_readCommand_62 : decode cX0_readCommand 62 = .ok (.iadd, 1) := by decide +kernel
theorem dX0_readCommand_63 : decode cX0_readCommand 63 = .ok (.invokevirtual 60, 3) := by decide +kernel
theorem dX0_readCommand_66 : decode cX0_readCommand 66 = .ok (.ifCond .ne 5, 3) := by decide +kernel
theorem dX0_readCommand_69 : decode cX0_readCommand 69 = .ok (.iconst 0, 1) := by decide +kernel
theorem dX0_readCommand_70 : decode cX0_readCommand 70 = .ok (.ireturn, 1) := by decide +kernel
theorem dX0_readCommand_71 : decode cX0_readCommand 71 = .ok (.iinc 4 1, 3) := by decide +kernel
theorem dX0_readCommand_74 : decode cX0_readCommand 74 = .ok (.goto (-23), 3) := by decide +kernel
theorem dX0_readCommand_77 : decode cX0_readCommand 77 = .ok (.iconst 1, 1) := by decide +kernel
theorem dX0_readCommand_78 : decode cX0_readCommand 78 = .ok (.ireturn, 1) := by decide +kernel
theorem dX0_readNumber_0 : decode cX0_readNumber 0 = .ok (.aload_n 0, 1) := by decide +kernel
theorem dX0_readNumber_1 : decode cX0_readNumber 1 = .ok (.aload_n 0, 1) := by decide +kernel
theorem dX0_readNumber_2 : decode cX0_readNumber 2 = .ok (.getfield 19, 3) := by decide +kernel
theorem dX0_readNumber_5 : decode cX0_readNumber 5 = .ok (.invokevirtual 46, 3) := by decide +kernel
theorem dX0_readNumber_8 : decode cX0_readNumber 8 = .ok (.bipush 32, 2) := by decide +kernel
theorem dX0_readNumber_10 : decode cX0_readNumber 10 = .ok (.if_icmp .eq 5, 3) := by decide +kernel
theorem dX0_readNumber_13 : decode cX0_readNumber 13 = .ok (.iconst 0, 1) := by decide +kernel
theorem dX0_readNumber_14 : decode cX0_readNumber 14 = .ok (.ireturn, 1) := by decide +kernel
theorem dX0_readNumber_15 : decode cX0_readNumber 15 = .ok (.aload_n 0, 1) := by decide +kernel
theorem dX0_readNumber_16 : decode cX0_readNumber 16 = .ok (.dup, 1) := by decide +kernel
theorem dX0_readNumber_17 : decode cX0_readNumber 17 = .ok (.getfield 19, 3) := by decide +kernel
theorem dX0_readNumber_20 : decode cX0_readNumber 20 = .ok (.iconst 1, 1) := by decide +kernel
theorem dX0_readNumber_21 : decode cX0_readNumber 21 = .ok (.iadd, 1) := by decide +kernel
theorem dX0_readNumber_22 : decode cX0_readNumber 22 = .ok (.putfield 19, 3) := by decide +kernel
theorem dX0_readNumber_25 : decode cX0_readNumber 25 = .ok (.aload_n 0, 1) := by decide +kernel
theorem dX0_readNumber_26 : decode cX0_readNumber 26 = .ok (.aload_n 0, 1) := by decide +kernel
theorem dX0_readNumber_27 : decode cX0_readNumber 27 = .ok (.getfield 19, 3) := by decide +kernel
theorem dX0_readNumber_30 : decode cX0_readNumber 30 = .ok (.invokevirtual 46, 3) := by decide +kernel
theorem dX0_readNumber_33 : decode cX0_readNumber 33 = .ok (.invokestatic 64, 3) := by decide +kernel
theorem dX0_readNumber_36 : decode cX0_readNumber 36 = .ok (.ifCond .ne 5, 3) := by decide +kernel
theorem dX0_readNumber_39 : decode cX0_readNumber 39 = .ok (.iconst 0, 1) := by decide +kernel
theorem dX0_readNumber_40 : decode cX0_readNumber 40 = .ok (.ireturn, 1) := by decide +kernel
theorem dX0_readNumber_41 : decode cX0_readNumber 41 = .ok (.iconst 0, 1) := by decide +kernel
theorem dX0_readNumber_42 : decode cX0_readNumber 42 = .ok (.istore_n 3, 1) := by decide +kernel
theorem dX0_readNumber_43 : decode cX0_readNumber 43 = .ok (.iconst 0, 1) := by decide +kernel
theorem dX0_readNumber_44 : decode cX0_readNumber 44 = .ok (.istore 4, 2) := by decide +kernel
theorem dX0_readNumber_46 : decode cX0_readNumber 46 = .ok (.iload 4, 2) := by decide +kernel
theorem dX0_readNumber_48 : decode cX0_readNumber 48 = .ok (.iconst 5, 1) := by decide +kernel
theorem dX0_readNumber_49 : decode cX0_readNumber 49 = .ok (.if_icmp .ge 50, 3) := by decide +kernel
theorem dX0_readNumber_52 : decode cX0_readNumber 52 = .ok (.aload_n 0, 1) := by decide +kernel
theorem dX0_readNumber_53 : decode cX0_readNumber 53 = .ok (.aload_n 0, 1) := by decide +kernel
theorem dX0_readNumber_54 : decode cX0_readNumber 54 = .ok (.getfield 19, 3) := by decide +kernel
theorem dX0_readNumber_57 : decode cX0_readNumber 57 = .ok (.invokevirtual 46, 3) := by decide +kernel
theorem dX0_readNumber_60 : decode cX0_readNumber 60 = .ok (.invokestatic 64, 3) := by decide +kernel
theorem dX0_readNumber_63 : decode cX0_readNumber 63 = .ok (.ifCond .eq 36, 3) := by decide +kernel
theorem dX0_readNumber_66 : decode cX0_readNumber 66 = .ok (.bipush 10, 2) := by decide +kernel
theorem dX0_readNumber_68 : decode cX0_readNumber 68 = .ok (.iload_n 3, 1) := by decide +kernel
theorem dX0_readNumber_69 : decode cX0_readNumber 69 = .ok (.imul, 1) := by decide +kernel
theorem dX0_readNumber_70 : decode cX0_readNumber 70 = .ok (.aload_n 0, 1) := by decide +kernel
theorem dX0_readNumber_71 : decode cX0_readNumber 71 = .ok (.aload_n 0, 1) := by decide +kernel
theorem dX0_readNumber_72 : decode cX0_readNumber 72 = .ok (.getfield 19, 3) := by decide +kernel
theorem dX0_readNumber_75 : decode cX0_readNumber 75 = .ok (.invokevirtual 46, 3) := by decide +kernel
theorem dX0_readNumber_78 : decode cX0_readNumber 78 = .ok (.iadd, 1) := by decide +kernel
theorem dX0_readNumber_79 : decode cX0_readNumber 79 = .ok (.bipush 48, 2) := by decide +kernel
theorem dX0_readNumber_81 : decode cX0_readNumber 81 = .ok (.isub, 1) := by decide +kernel
theorem dX0_readNumber_82 : decode cX0_readNumber 82 = .ok (.istore_n 3, 1) := by decide +kernel
theorem dX0_readNumber_83 : decode cX0_readNumber 83 = .ok (.aload_n 0, 1) := by decide +kernel
theorem dX0_readNumber_84 : decode cX0_readNumber 84 = .ok (.dup, 1) := by decide +kernel
theorem dX0_readNumber_85 : decode cX0_readNumber 85 = .ok (.getfield 19, 3) := by decide +kernel
theorem dX0_readNumber_88 : decode cX0_readNumber 88 = .ok (.iconst 1, 1) := by decide +kernel
theorem dX0_readNumber_89 : decode cX0_readNumber 89 = .ok (.iadd, 1) := by decide +kernel
theorem dX0_readNumber_90 : decode cX0_readNumber 90 = .ok (.putfield 19, 3) := by decide +kernel
theorem dX0_readNumber_93 : decode cX0_readNumber 93 = .ok (.iinc 4 1, 3) := by decide +kernel
theorem dX0_readNumber_96 : decode cX0_readNumber 96 = .ok (.goto (-50), 3) := by decide +kernel
theorem dX0_readNumber_99 : decode cX0_readNumber 99 = .ok (.aload_n 0, 1) := by decide +kernel
theorem dX0_readNumber_100 : decode cX0_readNumber 100 = .ok (.getfield 27, 3) := by decide +kernel
theorem dX0_readNumber_103 : decode cX0_readNumber 103 = .ok (.iload_n 1, 1) := by decide +kernel
theorem dX0_readNumber_104 : decode cX0_readNumber 104 = .ok (.iload_n 2, 1) := by decide +kernel
theorem dX0_readNumber_105 : decode cX0_readNumber 105 = .ok (.iload_n 3, 1) := by decide +kernel
theorem dX0_readNumber_106 : decode cX0_readNumber 106 = .ok (.invokevirtual 56, 3) := by decide +kernel
theorem dX0_readNumber_109 : decode cX0_readNumber 109 = .ok (.iconst 1, 1) := by decide +kernel
theorem dX0_readNumber_110 : decode cX0_readNumber 110 = .ok (.ireturn, 1) := by decide +kernel
theorem dX0_letterAt_0 : decode cX0_letterAt 0 = .ok (.iload_n 1, 1) := by decide +kernel
theorem dX0_letterAt_1 : decode cX0_letterAt 1 = .ok (.ifCond .lt 29, 3) := by decide +kernel
theorem dX0_letterAt_4 : decode cX0_letterAt 4 = .ok (.iload_n 1, 1) := by decide +kernel
theorem dX0_letterAt_5 : decode cX0_letterAt 5 = .ok (.aload_n 0, 1) := by decide +kernel
theorem dX0_letterAt_6 : decode cX0_letterAt 6 = .ok (.getfield 15, 3) := by decide +kernel
theorem dX0_letterAt_9 : decode cX0_letterAt 9 = .ok (.if_icmp .ge 21, 3) := by decide +kernel
theorem dX0_letterAt_12 : decode cX0_letterAt 12 = .ok (.iload_n 1, 1) := by decide +kernel
theorem dX0_letterAt_13 : decode cX0_letterAt 13 = .ok (.aload_n 0, 1) := by decide +kernel
theorem dX0_letterAt_14 : decode cX0_letterAt 14 = .ok (.getfield 11, 3) := by decide +kernel
theorem dX0_letterAt_17 : decode cX0_letterAt 17 = .ok (.arraylength, 1) := by decide +kernel
theorem dX0_letterAt_18 : decode cX0_letterAt 18 = .ok (.if_icmp .ge 12, 3) := by decide +kernel
theorem dX0_letterAt_21 : decode cX0_letterAt 21 = .ok (.aload_n 0, 1) := by decide +kernel
theorem dX0_letterAt_22 : decode cX0_letterAt 22 = .ok (.getfield 11, 3) := by decide +kernel
theorem dX0_letterAt_25 : decode cX0_letterAt 25 = .ok (.iload_n 1, 1) := by decide +kernel
theorem dX0_letterAt_26 : decode cX0_letterAt 26 = .ok (.iaload, 1) := by decide +kernel
theorem dX0_letterAt_27 : decode cX0_letterAt 27 = .ok (.goto 4, 3) := by decide +kernel
theorem dX0_letterAt_30 : decode cX0_letterAt 30 = .ok (.iconst 0, 1) := by decide +kernel
theorem dX0_letterAt_31 : decode cX0_letterAt 31 = .ok (.ireturn, 1) := by decide +kernel
theorem dX0_isDigit_0 : decode cX0_isDigit 0 = .ok (.iload_n 0, 1) := by decide +kernel
theorem dX0_isDigit_1 : decode cX0_isDigit 1 = .ok (.bipush 48, 2) := by decide +kernel
theorem dX0_isDigit_3 : decode cX0_isDigit 3 = .ok (.if_icmp .lt 13, 3) := by decide +kernel
theorem dX0_isDigit_6 : decode cX0_isDigit 6 = .ok (.iload_n 0, 1) := by decide +kernel
theorem dX0_isDigit_7 : decode cX0_isDigit 7 = .ok (.bipush 57, 2) := by decide +kernel
theorem dX0_isDigit_9 : decode cX0_isDigit 9 = .ok (.if_icmp .gt 7, 3) := by decide +kernel
theorem dX0_isDigit_12 : decode cX0_isDigit 12 = .ok (.iconst 1, 1) := by decide +kernel
theorem dX0_isDigit_13 : decode cX0_isDigit 13 = .ok (.goto 4, 3) := by decide +kernel
theorem dX0_isDigit_16 : decode cX0_isDigit 16 = .ok (.iconst 0, 1) := by decide +kernel
theorem dX0_isDigit_17 : decode cX0_isDigit 17 = .ok (.ireturn, 1) := by decide +kernel
theorem dX0_numbersOf_0 : decode cX0_numbersOf 0 = .ok (.iload_n 0, 1) := by decide +kernel
theorem dX0_numbersOf_1 : decode cX0_numbersOf 1 = .ok (.tableswitch 85 99 114 #[81, 83, 85, 85, 85, 79, 81, 85, 85, 85, 85, 85, 81, 81, 85, 83], 79) := by decide +kernel
theorem dX0_numbersOf_80 : decode cX0_numbersOf 80 = .ok (.iconst 3, 1) := by decide +kernel
theorem dX0_numbersOf_81 : decode cX0_numbersOf 81 = .ok (.ireturn, 1) := by decide +kernel
theorem dX0_numbersOf_82 : decode cX0_numbersOf 82 = .ok (.iconst 2, 1) := by decide +kernel
theorem dX0_numbersOf_83 : decode cX0_numbersOf 83 = .ok (.ireturn, 1) := by decide +kernel
theorem dX0_numbersOf_84 : decode cX0_numbersOf 84 = .ok (.iconst 1, 1) := by decide +kernel
theorem dX0_numbersOf_85 : decode cX0_numbersOf 85 = .ok (.ireturn, 1) := by decide +kernel
theorem dX0_numbersOf_86 : decode cX0_numbersOf 86 = .ok (.iconst 0, 1) := by decide +kernel
theorem dX0_numbersOf_87 : decode cX0_numbersOf 87 = .ok (.ireturn, 1) := by decide +kernel
theorem dX1_init_0 : decode cX1_init 0 = .ok (.aload_n 0, 1) := by decide +kernel
theorem dX1_init_1 : decode cX1_init 1 = .ok (.invokespecial 3, 3) := by decide +kernel
theorem dX1_init_4 : decode cX1_init 4 = .ok (.aload_n 0, 1) := by decide +kernel
theorem dX1_init_5 : decode cX1_init 5 = .ok (.bipush 8, 2) := by decide +kernel
theorem dX1_init_7 : decode cX1_init 7 = .ok (.anewarray 9, 3) := by decide +kernel
theorem dX1_init_10 : decode cX1_init 10 = .ok (.putfield 11, 3) := by decide +kernel
theorem dX1_init_13 : decode cX1_init 13 = .ok (.aload_n 0, 1) := by decide +kernel
theorem dX1_init_14 : decode cX1_init 14 = .ok (.iconst 0, 1) := by decide +kernel
theorem dX1_init_15 : decode cX1_init 15 = .ok (.putfield 17, 3) := by decide +kernel
theorem dX1_init_18 : decode cX1_init 18 = .ok (.aload_n 0, 1) := by decide +kernel
theorem dX1_init_19 : decode cX1_init 19 = .ok (.iconst 0, 1) := by decide +kernel
theorem dX1_init_20 : decode cX1_init 20 = .ok (.putfield 21, 3) := by decide +kernel
theorem dX1_init_23 : decode cX1_init 23 = .ok (.iconst 0, 1) := by decide +kernel
theorem dX1_init_24 : decode cX1_init 24 = .ok (.istore_n 1, 1) := by decide +kernel
theorem dX1_init_25 : decode cX1_init 25 = .ok (.iload_n 1, 1) := by decide +kernel
theorem dX1_init_26 : decode cX1_init 26 = .ok (.aload_n 0, 1) := by decide +kernel
theorem dX1_init_27 : decode cX1_init 27 = .ok (.getfield 11, 3) := by decide +kernel
theorem dX1_init_30 : decode cX1_init 30 = .ok (.arraylength, 1) := by decide +kernel
theorem dX1_init_31 : decode cX1_init 31 = .ok (.if_icmp .ge 22, 3) := by decide +kernel
theorem dX1_init_34 : decode cX1_init 34 = .ok (.aload_n 0, 1) := by decide +kernel
theorem dX1_init_35 : decode cX1_init 35 = .ok (.getfield 11, 3) := by decide +kernel
theorem dX1_init_38 : decode cX1_init 38 = .ok (.iload_n 1, 1) := by decide +kernel
theorem dX1_init_39 : decode cX1_init 39 = .ok (.new 9, 3) := by decide +kernel
theorem dX1_init_42 : decode cX1_init 42 = .ok (.dup, 1) := by decide +kernel
theorem dX1_init_43 : decode cX1_init 43 = .ok (.invokespecial 24, 3) := by decide +kernel
theorem dX1_init_46 : decode cX1_init 46 = .ok (.aastore, 1) := by decide +kernel
theorem dX1_init_47 : decode cX1_init 47 = .ok (.iinc 1 1, 3) := by decide +kernel
theorem dX1_init_50 : decode cX1_init 50 = .ok (.goto (-25), 3) := by decide +kernel
theorem dX1_init_53 : decode cX1_init 53 = .ok (.return_, 1) := by decide +kernel
theorem dX1_size_0 : decode cX1_size 0 = .ok (.aload_n 0, 1) := by decide +kernel
theorem dX1_size_1 : decode cX1_size 1 = .ok (.getfield 21, 3) := by decide +kernel
theorem dX1_size_4 : decode cX1_size 4 = .ok (.ireturn, 1) := by decide +kernel
theorem dX1_isEmpty_0 : decode cX1_isEmpty 0 = .ok (.aload_n 0, 1) := by decide +kernel
theorem dX1_isEmpty_1 : decode cX1_isEmpty 1 = .ok (.getfield 21, 3) := by decide +kernel
theorem dX1_isEmpty_4 : decode cX1_isEmpty 4 = .ok (.ifCond .ne 7, 3) := by decide +kernel
theorem dX1_isEmpty_7 : decode cX1_isEmpty 7 = .ok (.iconst 1, 1) := by decide +kernel
theorem dX1_isEmpty_8 : decode cX1_isEmpty 8 = .ok (.goto 4, 3) := by decide +kernel
theorem dX1_isEmpty_11 : decode cX1_isEmpty 11 = .ok (.iconst 0, 1) := by decide +kernel
theorem dX1_isEmpty_12 : decode cX1_isEmpty 12 = .ok (.ireturn, 1) := by decide +kernel
theorem dX1_push_0 : decode cX1_push 0 = .ok (.aload_n 0, 1) := by decide +kernel
theorem dX1_push_1 : decode cX1_push 1 = .ok (.aload_n 0, 1) := by decide +kernel
theorem dX1_push_2 : decode cX1_push 2 = .ok (.getfield 17, 3) := by decide +kernel
theorem dX1_push_5 : decode cX1_push 5 = .ok (.invokevirtual 25, 3) := by decide +kernel
theorem dX1_push_8 : decode cX1_push 8 = .ok (.astore_n 2, 1) := by decide +kernel
theorem dX1_push_9 : decode cX1_push 9 = .ok (.aload_n 2, 1) := by decide +kernel
theorem dX1_push_10 : decode cX1_push 10 = .ok (.ifnull 8, 3) := by decide +kernel
theorem dX1_push_13 : decode cX1_push 13 = .ok (.aload_n 2, 1) := by decide +kernel
theorem dX1_push_14 : decode cX1_push 14 = .ok (.aload_n 1, 1) := by decide +kernel
theorem dX1_push_15 : decode cX1_push 15 = .ok (.invokevirtual 29, 3) := by decide +kernel
theorem dX1_push_18 : decode cX1_push 18 = .ok (.aload_n 0, 1) := by decide +kernel
theorem dX1_push_19 : decode cX1_push 19 = .ok (.aload_n 0, 1) := by decide +kernel
theorem dX1_push_20 : decode cX1_push 20 = .ok (.getfield 17, 3) := by decide +kernel
theorem dX1_push_23 : decode cX1_push 23 = .ok (.iconst 1, 1) := by decide +kernel
theorem dX1_push_24 : decode cX1_push 24 = .ok (.iadd, 1) := by decide +kernel
theorem dX1_push_25 : decode cX1_push 25 = .ok (.aload_n 0, 1) := by decide +kernel
theorem dX1_push_26 : decode cX1_push 26 = .ok (.getfield 11, 3) := by decide +kernel
theorem dX1_push_29 : decode cX1_push 29 = .ok (.arraylength, 1) := by decide +kernel
theorem dX1_push_30 : decode cX1_push 30 = .ok (.if_icmp .ge 12, 3) := by decide +kernel
theorem dX1_push_33 : decode cX1_push 33 = .ok (.aload_n 0, 1) := by decide +kernel
theorem dX1_push_34 : decode cX1_push 34 = .ok (.getfield 17, 3) := by decide +kernel
theorem dX1_push_37 : decode cX1_push 37 = .ok (.iconst 1, 1) := by decide +kernel
theorem dX1_push_38 : decode cX1_push 38 = .ok (.iadd, 1) := by decide +kernel
theorem dX1_push_39 : decode cX1_push 39 = .ok (.goto 4, 3) := by decide +kernel
theorem dX1_push_42 : decode cX1_push 42 = .ok (.iconst 0, 1) := by decide +kernel
theorem dX1_push_43 : decode cX1_push 43 = .ok (.putfield 17, 3) := by decide +kernel
theorem dX1_push_46 : decode cX1_push 46 = .ok (.aload_n 0, 1) := by decide +kernel
theorem dX1_push_47 : decode cX1_push 47 = .ok (.aload_n 0, 1) := by decide +kernel
theorem dX1_push_48 : decode cX1_push 48 = .ok (.getfield 21, 3) := by decide +kernel
theorem dX1_push_51 : decode cX1_push 51 = .ok (.iconst 1, 1) := by decide +kernel
theorem dX1_push_52 : decode cX1_push 52 = .ok (.iadd, 1) := by decide +kernel
theorem dX1_push_53 : decode cX1_push 53 = .ok (.aload_n 0, 1) := by decide +kernel
theorem dX1_push_54 : decode cX1_push 54 = .ok (.getfield 11, 3) := by decide +kernel
theorem dX1_push_57 : decode cX1_push 57 = .ok (.arraylength, 1) := by decide +kernel
theorem dX1_push_58 : decode cX1_push 58 = .ok (.invokestatic 33, 3) := by decide +kernel
theorem dX1_push_61 : decode cX1_push 61 = .ok (.putfield 21, 3) := by decide +kernel
theorem dX1_push_64 : decode cX1_push 64 = .ok (.return_, 1) := by decide +kernel
theorem dX1_pop_0 : decode cX1_pop 0 = .ok (.aload_n 0, 1) := by decide +kernel
theorem dX1_pop_1 : decode cX1_pop 1 = .ok (.getfield 21, 3) := by decide +kernel
theorem dX1_pop_4 : decode cX1_pop 4 = .ok (.ifCond .ne 4, 3) := by decide +kernel
theorem dX1_pop_7 : decode cX1_pop 7 = .ok (.return_, 1) := by decide +kernel
theorem dX1_pop_8 : decode cX1_pop 8 = .ok (.aload_n 0, 1) := by decide +kernel
theorem dX1_pop_9 : decode cX1_pop 9 = .ok (.aload_n 0, 1) := by decide +kernel
theorem dX1_pop_10 : decode cX1_pop 10 = .ok (.getfield 17, 3) := by decide +kernel
theorem dX1_pop_13 : decode cX1_pop 13 = .ok (.ifCond .le 12, 3) := by decide +kernel
theorem dX1_pop_16 : decode cX1_pop 16 = .ok (.aload_n 0, 1) := by decide +kernel
theorem dX1_pop_17 : decode cX1_pop 17 = .ok (.getfield 17, 3) := by decide +kernel
theorem dX1_pop_20 : decode cX1_pop 20 = .ok (.iconst 1, 1) := by decide +kernel
theorem dX1_pop_21 : decode cX1_pop 21 = .ok (.isub, 1) := by decide +kernel
theorem dX1_pop_22 : decode cX1_pop 22 = .ok (.goto 10, 3) := by decide +kernel
theorem dX1_pop_25 : decode cX1_pop 25 = .ok (.aload_n 0, 1) := by decide +kernel
theorem dX1_pop_26 : decode cX1_pop 26 = .ok (.getfield 11, 3) := by decide +kernel
theorem dX1_pop_29 : decode cX1_pop 29 = .ok (.arraylength, 1) := by decide +kernel
theorem dX1_pop_30 : decode cX1_pop 30 = .ok (.iconst 1, 1) := by decide +kernel
theorem dX1_pop_31 : decode cX1_pop 31 = .ok (.isub, 1) := by decide +kernel
theorem dX1_pop_32 : decode cX1_pop 32 = .ok (.putfield 17, 3) := by decide +kernel
theorem dX1_pop_35 : decode cX1_pop 35 = .ok (.aload_n 0, 1) := by decide +kernel
theorem dX1_pop_36 : decode cX1_pop 36 = .ok (.dup, 1) := by decide +kernel
theorem dX1_pop_37 : decode cX1_pop 37 = .ok (.getfield 21, 3) := by decide +kernel
theorem dX1_pop_40 : decode cX1_pop 40 = .ok (.iconst 1, 1) := by decide +kernel
theorem dX1_pop_41 : decode cX1_pop 41 = .ok (.isub, 1) := by decide +kernel
theorem dX1_pop_42 : decode cX1_pop 42 = .ok (.putfield 21, 3) := by decide +kernel
theorem dX1_pop_45 : decode cX1_pop 45 = .ok (.aload_n 0, 1) := by decide +kernel
theorem dX1_pop_46 : decode cX1_pop 46 = .ok (.aload_n 0, 1) := by decide +kernel
theorem dX1_pop_47 : decode cX1_pop 47 = .ok (.getfield 17, 3) := by decide +kernel
theorem dX1_pop_50 : decode cX1_pop 50 = .ok (.invokevirtual 25, 3) := by decide +kernel
theorem dX1_pop_53 : decode cX1_pop 53 = .ok (.astore_n 2, 1) := by decide +kernel
theorem dX1_pop_54 : decode cX1_pop 54 = .ok (.aload_n 2, 1) := by decide +kernel
theorem dX1_pop_55 : decode cX1_pop 55 = .ok (.ifnull 8, 3) := by decide +kernel
theorem dX1_pop_58 : decode cX1_pop 58 = .ok (.aload_n 1, 1) := by decide +kernel
theorem dX1_pop_59 : decode cX1_pop 59 = .ok (.aload_n 2, 1) := by decide +kernel
theorem dX1_pop_60 : decode cX1_pop 60 = .ok (.invokevirtual 29, 3) := by decide +kernel
theorem dX1_pop_63 : decode cX1_pop 63 = .ok (.return_, 1) := by decide +kernel
theorem dX1_at_0 : decode cX1_at 0 = .ok (.iload_n 1, 1) := by decide +kernel
theorem dX1_at_1 : decode cX1_at 1 = .ok (.ifCond .lt 21, 3) := by decide +kernel
theorem dX1_at_4 : decode cX1_at 4 = .ok (.iload_n 1, 1) := by decide +kernel
theorem dX1_at_5 : decode cX1_at 5 = .ok (.aload_n 0, 1) := by decide +kernel
theorem dX1_at_6 : decode cX1_at 6 = .ok (.getfield 11, 3) := by decide +kernel
theorem dX1_at_9 : decode cX1_at 9 = .ok (.arraylength, 1) := by decide +kernel
theorem dX1_at_10 : decode cX1_at 10 = .ok (.if_icmp .ge 12, 3) := by decide +kernel
theorem dX1_at_13 : decode cX1_at 13 = .ok (.aload_n 0, 1) := by decide +kernel
theorem dX1_at_14 : decode cX1_at 14 = .ok (.getfield 11, 3) := by decide +kernel
theorem dX1_at_17 : decode cX1_at 17 = .ok (.iload_n 1, 1) := by decide +kernel
theorem dX1_at_18 : decode cX1_at 18 = .ok (.aaload, 1) := by decide +kernel
theorem dX1_at_19 : decode cX1_at 19 = .ok (.goto 4, 3) := by decide +kernel
theorem dX1_at_22 : decode cX1_at 22 = .ok (.aconst_null, 1) := by decide +kernel
theorem dX1_at_23 : decode cX1_at 23 = .ok (.areturn, 1) := by decide +kernel
theorem dX2_init_0 : decode cX2_init 0 = .ok (.aload_n 0, 1) := by decide +kernel
theorem dX2_init_1 : decode cX2_init 1 = .ok (.invokespecial 3, 3) := by decide +kernel
theorem dX2_init_4 : decode cX2_init 4 = .ok (.aload_n 0, 1) := by decide +kernel
theorem dX2_init_5 : decode cX2_init 5 = .ok (.new 9, 3) := by decide +kernel
theorem dX2_init_8 : decode cX2_init 8 = .ok (.dup, 1) := by decide +kernel
theorem dX2_init_9 : decode cX2_init 9 = .ok (.bipush 20, 2) := by decide +kernel
theorem dX2_init_11 : decode cX2_init 11 = .ok (.bipush 12, 2) := by decide +kernel
theorem dX2_init_13 : decode cX2_init 13 = .ok (.invokespecial 11, 3) := by decide +kernel
theorem dX2_init_16 : decode cX2_init 16 = .ok (.putfield 14, 3) := by decide +kernel
theorem dX2_init_19 : decode cX2_init 19 = .ok (.aload_n 0, 1) := by decide +kernel
theorem dX2_init_20 : decode cX2_init 20 = .ok (.new 9, 3) := by decide +kernel
theorem dX2_init_23 : decode cX2_init 23 = .ok (.dup, 1) := by decide +kernel
theorem dX2_init_24 : decode cX2_init 24 = .ok (.bipush 8, 2) := by decide +kernel
theorem dX2_init_26 : decode cX2_init 26 = .ok (.iconst 4, 1) := by decide +kernel
theorem dX2_init_27 : decode cX2_init 27 = .ok (.invokespecial 11, 3) := by decide +kernel
theorem dX2_init_30 : decode cX2_init 30 = .ok (.putfield 20, 3) := by decide +kernel
theorem dX2_init_33 : decode cX2_init 33 = .ok (.aload_n 0, 1) := by decide +kernel
theorem dX2_init_34 : decode cX2_init 34 = .ok (.new 9, 3) := by decide +kernel
theorem dX2_init_37 : decode cX2_init 37 = .ok (.dup, 1) := by decide +kernel
theorem dX2_init_38 : decode cX2_init 38 = .ok (.bipush 24, 2) := by decide +kernel
theorem dX2_init_40 : decode cX2_init 40 = .ok (.iconst 4, 1) := by decide +kernel
theorem dX2_init_41 : decode cX2_init 41 = .ok (.invokespecial 11, 3) := by decide +kernel
theorem dX2_init_44 : decode cX2_init 44 = .ok (.putfield 23, 3) := by decide +kernel
theorem dX2_init_47 : decode cX2_init 47 = .ok (.aload_n 0, 1) := by decide +kernel
theorem dX2_init_48 : decode cX2_init 48 = .ok (.new 9, 3) := by decide +kernel
theorem dX2_init_51 : decode cX2_init 51 = .ok (.dup, 1) := by decide +kernel
theorem dX2_init_52 : decode cX2_init 52 = .ok (.bipush 60, 2) := by decide +kernel
theorem dX2_init_54 : decode cX2_init 54 = .ok (.iconst 5, 1) := by decide +kernel
theorem dX2_init_55 : decode cX2_init 55 = .ok (.invokespecial 11, 3) := by decide +kernel
theorem dX2_init_58 : decode cX2_init 58 = .ok (.putfield 26, 3) := by decide +kernel
theorem dX2_init_61 : decode cX2_init 61 = .ok (.aload_n 0, 1) := by decide +kernel
theorem dX2_init_62 : decode cX2_init 62 = .ok (.new 9, 3) := by decide +kernel
theorem dX2_init_65 : decode cX2_init 65 = .ok (.dup, 1) := by decide +kernel
theorem dX2_init_66 : decode cX2_init 66 = .ok (.getstatic 29, 3) := by decide +kernel
theorem dX2_init_69 : decode cX2_init 69 = .ok (.arraylength, 1) := by decide +kernel
theorem dX2_init_70 : decode cX2_init 70 = .ok (.iconst 1, 1) := by decide +kernel
theorem dX2_init_71 : decode cX2_init 71 = .ok (.invokespecial 11, 3) := by decide +kernel
theorem dX2_init_74 : decode cX2_init 74 = .ok (.putfield 33, 3) := by decide +kernel
theorem dX2_init_77 : decode cX2_init 77 = .ok (.aload_n 0, 1) := by decide +kernel
theorem dX2_init_78 : decode cX2_init 78 = .ok (.iconst 0, 1) := by decide +kernel
theorem dX2_init_79 : decode cX2_init 79 = .ok (.putfield 36, 3) := by decide +kernel
theorem dX2_init_82 : decode cX2_init 82 = .ok (.iconst 0, 1) := by decide +kernel
theorem dX2_init_83 : decode cX2_init 83 = .ok (.istore_n 1, 1) := by decide +kernel
theorem dX2_init_84 : decode cX2_init 84 = .ok (.iload_n 1, 1) := by decide +kernel
theorem dX2_init_85 : decode cX2_init 85 = .ok (.getstatic 29, 3) := by decide +kernel
theorem dX2_init_88 : decode cX2_init 88 = .ok (.arraylength, 1) := by decide +kernel
theorem dX2_init_89 : decode cX2_init 89 = .ok (.if_icmp .ge 29, 3) := by decide +kernel
theorem dX2_init_92 : decode cX2_init 92 = .ok (.aload_n 0, 1) := by decide +kernel
theorem dX2_init_93 : decode cX2_init 93 = .ok (.getfield 33, 3) := by decide +kernel
theorem dX2_init_96 : decode cX2_init 96 = .ok (.aload_n 0, 1) := by decide +kernel
theorem dX2_init_97 : decode cX2_init 97 = .ok (.getfield 33, 3) := by decide +kernel
theorem dX2_init_100 : decode cX2_init 100 = .ok (.invokevirtual 40, 3) := by decide +kernel
theorem dX2_init_103 : decode cX2_init 103 = .ok (.iconst 0, 1) := by decide +kernel
theorem dX2_init_104 : decode cX2_init 104 = .ok (.getstatic 29, 3) := by decide +kernel
theorem dX2_init_107 : decode cX2_init 107 = .ok (.iload_n 1, 1) := by decide +kernel
theorem dX2_init_108 : decode cX2_init 108 = .ok (.iaload, 1) := by decide +kernel
theorem dX2_init_109 : decode cX2_init 109 = .ok (.invokevirtual 44, 3) := by decide +kernel
theorem dX2_init_112 : decode cX2_init 112 = .ok (.iinc 1 1, 3) := by decide +kernel
theorem dX2_init_115 : decode cX2_init 115 = .ok (.goto (-31), 3) := by decide +kernel
theorem dX2_init_118 : decode cX2_init 118 = .ok (.return_, 1) := by decide +kernel
theorem dX2_copyFrom_0 : decode cX2_copyFrom 0 = .ok (.aload_n 0, 1) := by decide +kernel
theorem dX2_copyFrom_1 : decode cX2_copyFrom 1 = .ok (.getfield 14, 3) := by decide +kernel
theorem dX2_copyFrom_4 : decode cX2_copyFrom 4 = .ok (.aload_n 1, 1) := by decide +kernel
theorem dX2_copyFrom_5 : decode cX2_copyFrom 5 = .ok (.getfield 14, 3) := by decide +kernel
theorem dX2_copyFrom_8 : decode cX2_copyFrom 8 = .ok (.invokevirtual 48, 3) := by decide +kernel
theorem dX2_copyFrom_11 : decode cX2_copyFrom 11 = .ok (.aload_n 0, 1) := by decide +kernel
theorem dX2_copyFrom_12 : decode cX2_copyFrom 12 = .ok (.getfield 20, 3) := by decide +kernel
theorem dX2_copyFrom_15 : decode cX2_copyFrom 15 = .ok (.aload_n 1, 1) := by decide +kernel
theorem dX2_copyFrom_16 : decode cX2_copyFrom 16 = .ok (.getfield 20, 3) := by decide +kernel
theorem dX2_copyFrom_19 : decode cX2_copyFrom 19 = .ok (.invokevirtual 48, 3) := by decide +kernel
theorem dX2_copyFrom_22 : decode cX2_copyFrom 22 = .ok (.aload_n 0, 1) := by decide +kernel
theorem dX2_copyFrom_23 : decode cX2_copyFrom 23 = .ok (.getfield 23, 3) := by decide +kernel
theorem dX2_copyFrom_26 : decode cX2_copyFrom 26 = .ok (.aload_n 1, 1) := by decide +kernel
theorem dX2_copyFrom_27 : decode cX2_copyFrom 27 = .ok (.getfield 23, 3) := by decide +kernel
theorem dX2_copyFrom_30 : decode cX2_copyFrom 30 = .ok (.invokevirtual 48, 3) := by decide +kernel
theorem dX2_copyFrom_33 : decode cX2_copyFrom 33 = .ok (.aload_n 0, 1) := by decide +kernel
theorem dX2_copyFrom_34 : decode cX2_copyFrom 34 = .ok (.getfield 26, 3) := by decide +kernel
theorem dX2_copyFrom_37 : decode cX2_copyFrom 37 = .ok (.aload_n 1, 1) := by decide +kernel
theorem dX2_copyFrom_38 : decode cX2_copyFrom 38 = .ok (.getfield 26, 3) := by decide +kernel
theorem dX2_copyFrom_41 : decode cX2_copyFrom 41 = .ok (.invokevirtual 48, 3) := by decide +kernel
theorem dX2_copyFrom_44 : decode cX2_copyFrom 44 = .ok (.aload_n 0, 1) := by decide +kernel
theorem dX2_copyFrom_45 : decode cX2_copyFrom 45 = .ok (.getfield 33, 3) := by decide +kernel
theorem dX2_copyFrom_48 : decode cX2_copyFrom 48 = .ok (.aload_n 1, 1) := by decide +kernel
theorem dX2_copyFrom_49 : decode cX2_copyFrom 49 = .ok (.getfield 33, 3) := by decide +kernel
theorem dX2_copyFrom_52 : decode cX2_copyFrom 52 = .ok (.invokevirtual 48, 3) := by decide +kernel
theorem dX2_copyFrom_55 : decode cX2_copyFrom 55 = .ok (.aload_n 0, 1) := by decide +kernel
theorem dX2_copyFrom_56 : decode cX2_copyFrom 56 = .ok (.aload_n 1, 1) := by decide +kernel
theorem dX2_copyFrom_57 : decode cX2_copyFrom 57 = .ok (.getfield 36, 3) := by decide +kernel
theorem dX2_copyFrom_60 : decode cX2_copyFrom 60 = .ok (.putfield 36, 3) := by decide +kernel
theorem dX2_copyFrom_63 : decode cX2_copyFrom 63 = .ok (.return_, 1) := by decide +kernel
theorem dX3_init_0 : decode cX3_init 0 = .ok (.aload_n 0, 1) := by decide +kernel
theorem dX3_init_1 : decode cX3_init 1 = .ok (.invokespecial 3, 3) := by decide +kernel
theorem dX3_init_4 : decode cX3_init 4 = .ok (.aload_n 0, 1) := by decide +kernel
theorem dX3_init_5 : decode cX3_init 5 = .ok (.iconst 0, 1) := by decide +kernel
theorem dX3_init_6 : decode cX3_init 6 = .ok (.putfield 9, 3) := by decide +kernel
theorem dX3_init_9 : decode cX3_init 9 = .ok (.aload_n 0, 1) := by decide +kernel
theorem dX3_init_10 : decode cX3_init 10 = .ok (.iload_n 1, 1) := by decide +kernel
theorem dX3_init_11 : decode cX3_init 11 = .ok (.putfield 15, 3) := by decide +kernel
theorem dX3_init_14 : decode cX3_init 14 = .ok (.aload_n 0, 1) := by decide +kernel
theorem dX3_init_15 : decode cX3_init 15 = .ok (.iload_n 2, 1) := by decide +kernel
theorem dX3_init_16 : decode cX3_init 16 = .ok (.putfield 18, 3) := by decide +kernel
theorem dX3_init_19 : decode cX3_init 19 = .ok (.aload_n 0, 1) := by decide +kernel
theorem dX3_init_20 : decode cX3_init 20 = .ok (.iconst 0, 1) := by decide +kernel
theorem dX3_init_21 : decode cX3_init 21 = .ok (.iload_n 1, 1) := by decide +kernel
theorem dX3_init_22 : decode cX3_init 22 = .ok (.iload_n 2, 1) := by decide +kernel
theorem dX3_init_23 : decode cX3_init 23 = .ok (.imul, 1) := by decide +kernel
theorem dX3_init_24 : decode cX3_init 24 = .ok (.invokestatic 21, 3) := by decide +kernel
theorem dX3_init_27 : decode cX3_init 27 = .ok (.newarray .int, 2) := by decide +kernel
theorem dX3_init_29 : decode cX3_init 29 = .ok (.putfield 27, 3) := by decide +kernel
theorem dX3_init_32 : decode cX3_init 32 = .ok (.return_, 1) := by decide +kernel
theorem dX3_size_0 : decode cX3_size 0 = .ok (.aload_n 0, 1) := by decide +kernel
theorem dX3_size_1 : decode cX3_size 1 = .ok (.getfield 9, 3) := by decide +kernel
theorem dX3_size_4 : decode cX3_size 4 = .ok (.ireturn, 1) := by decide +kernel
theorem dX3_has_0 : decode cX3_has 0 = .ok (.iload_n 1, 1) := by decide +kernel
theorem dX3_has_1 : decode cX3_has 1 = .ok (.ifCond .lt 15, 3) := by decide +kernel
theorem dX3_has_4 : decode cX3_has 4 = .ok (.iload_n 1, 1) := by decide +kernel
theorem dX3_has_5 : decode cX3_has 5 = .ok (.aload_n 0, 1) := by decide +kernel
theorem dX3_has_6 : decode cX3_has 6 = .ok (.getfield 9, 3) := by decide +kernel
theorem dX3_has_9 : decode cX3_has 9 = .ok (.if_icmp .ge 7, 3) := by decide +kernel
theorem dX3_has_12 : decode cX3_has 12 = .ok (.iconst 1, 1) := by decide +kernel
theorem dX3_has_13 : decode cX3_has 13 = .ok (.goto 4, 3) := by decide +kernel
theorem dX3_has_16 : decode cX3_has 16 = .ok (.iconst 0, 1) := by decide +kernel
theorem dX3_has_17 : decode cX3_has 17 = .ok (.ireturn, 1) := by decide +kernel
theorem dX3_addRow_0 : decode cX3_addRow 0 = .ok (.aload_n 0, 1) := by decide +kernel
theorem dX3_addRow_1 : decode cX3_addRow 1 = .ok (.getfield 9, 3) := by decide +kernel
theorem dX3_addRow_4 : decode cX3_addRow 4 = .ok (.aload_n 0, 1) := by decide +kernel
theorem dX3_addRow_5 : decode cX3_addRow 5 = .ok (.getfield 15, 3) := by decide +kernel
theorem dX3_addRow_8 : decode cX3_addRow 8 = .ok (.if_icmp .lt 6, 3) := by decide +kernel
theorem dX3_addRow_11 : decode cX3_addRow 11 = .ok (.bipush (-3), 2) := by decide +kernel
theorem dX3_addRow_13 : decode cX3_addRow 13 = .ok (.ireturn, 1) := by decide +kernel
theorem dX3_addRow_14 : decode cX3_addRow 14 = .ok (.aload_n 0, 1) := by decide +kernel
theorem dX3_addRow_15 : decode cX3_addRow 15 = .ok (.dup, 1) := by decide +kernel
theorem dX3_addRow_16 : decode cX3_addRow 16 = .ok (.getfield 9, 3) := by decide +kernel
theorem dX3_addRow_19 : decode cX3_addRow 19 = .ok (.iconst 1, 1) := by decide +kernel
theorem dX3_addRow_20 : decode cX3_addRow 20 = .ok (.iadd, 1) := by decide +kernel
theorem dX3_addRow_21 : decode cX3_addRow 21 = .ok (.putfield 9, 3) := by decide +kernel
theorem dX3_addRow_24 : decode cX3_addRow 24 = .ok (.iconst 0, 1) := by decide +kernel
theorem dX3_addRow_25 : decode cX3_addRow 25 = .ok (.istore_n 1, 1) := by decide +kernel
theorem dX3_addRow_26 : decode cX3_addRow 26 = .ok (.iload_n 1, 1) := by decide +kernel
theorem dX3_addRow_27 : decode cX3_addRow 27 = .ok (.aload_n 0, 1) := by decide +kernel
theorem dX3_addRow_28 : decode cX3_addRow 28 = .ok (.getfield 18, 3) := by decide +kernel
theorem dX3_addRow_31 : decode cX3_addRow 31 = .ok (.if_icmp .ge 21, 3) := by decide +kernel
theorem dX3_addRow_34 : decode cX3_addRow 34 = .ok (.aload_n 0, 1) := by decide +kernel
theorem dX3_addRow_35 : decode cX3_addRow 35 = .ok (.aload_n 0, 1) := by decide +kernel
theorem dX3_addRow_36 : decode cX3_addRow 36 = .ok (.getfield 9, 3) := by decide +kernel
theorem dX3_addRow_39 : decode cX3_addRow 39 = .ok (.iconst 1, 1) := by decide +kernel
theorem dX3_addRow_40 : decode cX3_addRow 40 = .ok (.isub, 1) := by decide +kernel
theorem dX3_addRow_41 : decode cX3_addRow 41 = .ok (.iload_n 1, 1) := by decide +kernel
theorem dX3_addRow_42 : decode cX3_addRow 42 = .ok (.iconst 0, 1) := by decide +kernel
theorem dX3_addRow_43 : decode cX3_addRow 43 = .ok (.invokevirtual 31, 3) := by decide +kernel
theorem dX3_addRow_46 : decode cX3_addRow 46 = .ok (.iinc 1 1, 3) := by decide +kernel
theorem dX3_addRow_49 : decode cX3_addRow 49 = .ok (.goto (-23), 3) := by decide +kernel
theorem dX3_addRow_52 : decode cX3_addRow 52 = .ok (.aload_n 0, 1) := by decide +kernel
theorem dX3_addRow_53 : decode cX3_addRow 53 = .ok (.getfield 9, 3) := by decide +kernel
theorem dX3_addRow_56 : decode cX3_addRow 56 = .ok (.iconst 1, 1) := by decide +kernel
theorem dX3_addRow_57 : decode cX3_addRow 57 = .ok (.isub, 1) := by decide +kernel
theorem dX3_addRow_58 : decode cX3_addRow 58 = .ok (.ireturn, 1) := by decide +kernel
theorem dX3_removeRow_0 : decode cX3_removeRow 0 = .ok (.aload_n 0, 1) := by decide +kernel
theorem dX3_removeRow_1 : decode cX3_removeRow 1 = .ok (.iload_n 1, 1) := by decide +kernel
theorem dX3_removeRow_2 : decode cX3_removeRow 2 = .ok (.invokevirtual 35, 3) := by decide +kernel
theorem dX3_removeRow_5 : decode cX3_removeRow 5 = .ok (.ifCond .ne 4, 3) := by decide +kernel
theorem dX3_removeRow_8 : decode cX3_removeRow 8 = .ok (.return_, 1) := by decide +kernel
theorem dX3_removeRow_9 : decode cX3_removeRow 9 = .ok (.iload_n 1, 1) := by decide +kernel
theorem dX3_removeRow_10 : decode cX3_removeRow 10 = .ok (.iconst 1, 1) := by decide +kernel
theorem dX3_removeRow_11 : decode cX3_removeRow 11 = .ok (.iadd, 1) := by decide +kernel
theorem dX3_removeRow_12 : decode cX3_removeRow 12 = .ok (.istore_n 2, 1) := by decide +kernel
theorem dX3_removeRow_13 : decode cX3_removeRow 13 = .ok (.iload_n 2, 1) := by decide +kernel
theorem dX3_removeRow_14 : decode cX3_removeRow 14 = .ok (.aload_n 0, 1) := by decide +kernel
theorem dX3_removeRow_15 : decode cX3_removeRow 15 = .ok (.getfield 9, 3) := by decide +kernel
theorem dX3_removeRow_18 : decode cX3_removeRow 18 = .ok (.if_icmp .ge 39, 3) := by decide +kernel
theorem dX3_removeRow_21 : decode cX3_removeRow 21 = .ok (.iconst 0, 1) := by decide +kernel
theorem dX3_removeRow_22 : decode cX3_removeRow 22 = .ok (.istore_n 3, 1) := by decide +kernel
theorem dX3_removeRow_23 : decode cX3_removeRow 23 = .ok (.iload_n 3, 1) := by decide +kernel
theorem dX3_removeRow_24 : decode cX3_removeRow 24 = .ok (.aload_n 0, 1) := by decide +kernel
theorem dX3_removeRow_25 : decode cX3_removeRow 25 = .ok (.getfield 18, 3) := by decide +kernel
theorem dX3_removeRow_28 : decode cX3_removeRow 28 = .ok (.if_icmp .ge 23, 3) := by decide +kernel
theorem dX3_removeRow_31 : decode cX3_removeRow 31 = .ok (.aload_n 0, 1) := by decide +kernel
theorem dX3_removeRow_32 : decode cX3_removeRow 32 = .ok (.iload_n 2, 1) := by decide +kernel
theorem dX3_removeRow_33 : decode cX3_removeRow 33 = .ok (.iconst 1, 1) := by decide +kernel
theorem dX3_removeRow_34 : decode cX3_removeRow 34 = .ok (.isub, 1) := by decide +kernel
theorem dX3_removeRow_35 : decode cX3_removeRow 35 = .ok (.iload_n 3, 1) := by decide +kernel
theorem dX3_removeRow_36 : decode cX3_removeRow 36 = .ok (.aload_n 0, 1) := by decide +kernel
theorem dX3_removeRow_37 : decode cX3_removeRow 37 = .ok (.iload_n 2, 1) := by decide +kernel
theorem dX3_removeRow_38 : decode cX3_removeRow 38 = .ok (.iload_n 3, 1) := by decide +kernel
theorem dX3_removeRow_39 : decode cX3_removeRow 39 = .ok (.invokevirtual 39, 3) := by decide +kernel
theorem dX3_removeRow_42 : decode cX3_removeRow 42 = .ok (.invokevirtual 31, 3) := by decide +kernel
theorem dX3_removeRow_45 : decode cX3_removeRow 45 = .ok (.iinc 3 1, 3) := by decide +kernel
theorem dX3_removeRow_48 : decode cX3_removeRow 48 = .ok (.goto (-25), 3) := by decide +kernel
theorem dX3_removeRow_51 : decode cX3_removeRow 51 = .ok (.iinc 2 1, 3) := by decide +kernel
theorem dX3_removeRow_54 : decode cX3_removeRow 54 = .ok (.goto (-41), 3) := by decide +kernel
theorem dX3_removeRow_57 : decode cX3_removeRow 57 = .ok (.aload_n 0, 1) := by decide +kernel
theorem dX3_removeRow_58 : decode cX3_removeRow 58 = .ok (.dup, 1) := by decide +kernel
theorem dX3_removeRow_59 : decode cX3_removeRow 59 = .ok (.getfield 9, 3) := by decide +kernel
theorem dX3_removeRow_62 : decode cX3_removeRow 62 = .ok (.iconst 1, 1) := by decide +kernel
theorem dX3_removeRow_63 : decode cX3_removeRow 63 = .ok (.isub, 1) := by decide +kernel
theorem dX3_removeRow_64 : decode cX3_removeRow 64 = .ok (.putfield 9, 3) := by decide +kernel
theorem dX3_removeRow_67 : decode cX3_removeRow 67 = .ok (.return_, 1) := by decide +kernel
theorem dX3_removeAllRows_0 : decode cX3_removeAllRows 0 = .ok (.aload_n 0, 1) := by decide +kernel
theorem dX3_removeAllRows_1 : decode cX3_removeAllRows 1 = .ok (.iconst 0, 1) := by decide +kernel
theorem dX3_removeAllRows_2 : decode cX3_removeAllRows 2 = .ok (.putfield 9, 3) := by decide +kernel
theorem dX3_removeAllRows_5 : decode cX3_removeAllRows 5 = .ok (.return_, 1) := by decide +kernel
theorem dX3_get_0 : decode cX3_get 0 = .ok (.iload_n 1, 1) := by decide +kernel
theorem dX3_get_1 : decode cX3_get 1 = .ok (.ifCond .lt 23, 3) := by decide +kernel
theorem dX3_get_4 : decode cX3_get 4 = .ok (.iload_n 1, 1) := by decide +kernel
theorem dX3_get_5 : decode cX3_get 5 = .ok (.aload_n 0, 1) := by decide +kernel
theorem dX3_get_6 : decode cX3_get 6 = .ok (.getfield 9, 3) := by decide +kernel
theorem dX3_get_9 : decode cX3_get 9 = .ok (.if_icmp .ge 15, 3) := by decide +kernel
theorem dX3_get_12 : decode cX3_get 12 = .ok (.iload_n 2, 1) := by decide +kernel
theorem dX3_get_13 : decode cX3_get 13 = .ok (.ifCond .lt 11, 3) := by decide +kernel
theorem dX3_get_16 : decode cX3_get 16 = .ok (.iload_n 2, 1) := by decide +kernel
theorem dX3_get_17 : decode cX3_get 17 = .ok (.aload_n 0, 1) := by decide +kernel
theorem dX3_get_18 : decode cX3_get 18 = .ok (.getfield 18, 3) := by decide +kernel
theorem dX3_get_21 : decode cX3_get 21 = .ok (.if_icmp .lt 5, 3) := by decide +kernel
theorem dX3_get_24 : decode cX3_get 24 = .ok (.iconst 0, 1) := by decide +kernel
theorem dX3_get_25 : decode cX3_get 25 = .ok (.ireturn, 1) := by decide +kernel
theorem dX3_get_26 : decode cX3_get 26 = .ok (.iload_n 1, 1) := by decide +kernel
theorem dX3_get_27 : decode cX3_get 27 = .ok (.aload_n 0, 1) := by decide +kernel
theorem dX3_get_28 : decode cX3_get 28 = .ok (.getfield 18, 3) := by decide +kernel
theorem dX3_get_31 : decode cX3_get 31 = .ok (.imul, 1) := by decide +kernel
theorem dX3_get_32 : decode cX3_get 32 = .ok (.iload_n 2, 1) := by decide +kernel
theorem dX3_get_33 : decode cX3_get 33 = .ok (.iadd, 1) := by decide +kernel
theorem dX3_get_34 : decode cX3_get 34 = .ok (.istore_n 3, 1) := by decide +kernel
theorem dX3_get_35 : decode cX3_get 35 = .ok (.iload_n 3, 1) := by decide +kernel
theorem dX3_get_36 : decode cX3_get 36 = .ok (.aload_n 0, 1) := by decide +kernel
theorem dX3_get_37 : decode cX3_get 37 = .ok (.getfield 27, 3) := by decide +kernel
theorem dX3_get_40 : decode cX3_get 40 = .ok (.arraylength, 1) := by decide +kernel
theorem dX3_get_41 : decode cX3_get 41 = .ok (.if_icmp .ge 12, 3) := by decide +kernel
theorem dX3_get_44 : decode cX3_get 44 = .ok (.aload_n 0, 1) := by decide +kernel
theorem dX3_get_45 : decode cX3_get 45 = .ok (.getfield 27, 3) := by decide +kernel
theorem dX3_get_48 : decode cX3_get 48 = .ok (.iload_n 3, 1) := by decide +kernel
theorem dX3_get_49 : decode cX3_get 49 = .ok (.iaload, 1) := by decide +kernel
theorem dX3_get_50 : decode cX3_get 50 = .ok (.goto 4, 3) := by decide +kernel
theorem dX3_get_53 : decode cX3_get 53 = .ok (.iconst 0, 1) := by decide +kernel
theorem dX3_get_54 : decode cX3_get 54 = .ok (.ireturn, 1) := by decide +kernel
theorem dX3_put_0 : decode cX3_put 0 = .ok (.iload_n 1, 1) := by decide +kernel
theorem dX3_put_1 : decode cX3_put 1 = .ok (.ifCond .lt 23, 3) := by decide +kernel
theorem dX3_put_4 : decode cX3_put 4 = .ok (.iload_n 1, 1) := by decide +kernel
theorem dX3_put_5 : decode cX3_put 5 = .ok (.aload_n 0, 1) := by decide +kernel
theorem dX3_put_6 : decode cX3_put 6 = .ok (.getfield 9, 3) := by decide +kernel
theorem dX3_put_9 : decode cX3_put 9 = .ok (.if_icmp .ge 15, 3) := by decide +kernel
theorem dX3_put_12 : decode cX3_put 12 = .ok (.iload_n 2, 1) := by decide +kernel
theorem dX3_put_13 : decode cX3_put 13 = .ok (.ifCond .lt 11, 3) := by decide +kernel
theorem dX3_put_16 : decode cX3_put 16 = .ok (.iload_n 2, 1) := by decide +kernel
theorem dX3_put_17 : decode cX3_put 17 = .ok (.aload_n 0, 1) := by decide +kernel
theorem dX3_put_18 : decode cX3_put 18 = .ok (.getfield 18, 3) := by decide +kernel
theorem dX3_put_21 : decode cX3_put 21 = .ok (.if_icmp .lt 4, 3) := by decide +kernel
theorem dX3_put_24 : decode cX3_put 24 = .ok (.return_, 1) := by decide +kernel
theorem dX3_put_25 : decode cX3_put 25 = .ok (.iload_n 1, 1) := by decide +kernel
theorem dX3_put_26 : decode cX3_put 26 = .ok (.aload_n 0, 1) := by decide +kernel
theorem dX3_put_27 : decode cX3_put 27 = .ok (.getfield 18, 3) := by decide +kernel
theorem dX3_put_30 : decode cX3_put 30 = .ok (.imul, 1) := by decide +kernel
theorem dX3_put_31 : decode cX3_put 31 = .ok (.iload_n 2, 1) := by decide +kernel
theorem dX3_put_32 : decode cX3_put 32 = .ok (.iadd, 1) := by decide +kernel
theorem dX3_put_33 : decode cX3_put 33 = .ok (.istore 4, 2) := by decide +kernel
theorem dX3_put_35 : decode cX3_put 35 = .ok (.iload 4, 2) := by decide +kernel
theorem dX3_put_37 : decode cX3_put 37 = .ok (.aload_n 0, 1) := by decide +kernel
theorem dX3_put_38 : decode cX3_put 38 = .ok (.getfield 27, 3) := by decide +kernel
theorem dX3_put_41 : decode cX3_put 41 = .ok (.arraylength, 1) := by decide +kernel
theorem dX3_put_42 : decode cX3_put 42 = .ok (.if_icmp .ge 11, 3) := by decide +kernel
theorem dX3_put_45 : decode cX3_put 45 = .ok (.aload_n 0, 1) := by decide +kernel
theorem dX3_put_46 : decode cX3_put 46 = .ok (.getfield 27, 3) := by decide +kernel
theorem dX3_put_49 : decode cX3_put 49 = .ok (.iload 4, 2) := by decide +kernel
theorem dX3_put_51 : decode cX3_put 51 = .ok (.iload_n 3, 1) := by decide +kernel
theorem dX3_put_52 : decode cX3_put 52 = .ok (.iastore, 1) := by decide +kernel
theorem dX3_put_53 : decode cX3_put 53 = .ok (.return_, 1) := by decide +kernel
theorem dX3_overwriteWith_0 : decode cX3_overwriteWith 0 = .ok (.aload_n 1, 1) := by decide +kernel
theorem dX3_overwriteWith_1 : decode cX3_overwriteWith 1 = .ok (.getfield 27, 3) := by decide +kernel
theorem dX3_overwriteWith_4 : decode cX3_overwriteWith 4 = .ok (.iconst 0, 1) := by decide +kernel
theorem dX3_overwriteWith_5 : decode cX3_overwriteWith 5 = .ok (.aload_n 0, 1) := by decide +kernel
theorem dX3_overwriteWith_6 : decode cX3_overwriteWith 6 = .ok (.getfield 27, 3) := by decide +kernel
theorem dX3_overwriteWith_9 : decode cX3_overwriteWith 9 = .ok (.iconst 0, 1) := by decide +kernel
theorem dX3_overwriteWith_10 : decode cX3_overwriteWith 10 = .ok (.aload_n 0, 1) := by decide +kernel
theorem dX3_overwriteWith_11 : decode cX3_overwriteWith 11 = .ok (.getfield 27, 3) := by decide +kernel
theorem dX3_overwriteWith_14 : decode cX3_overwriteWith 14 = .ok (.arraylength, 1) := by decide +kernel
theorem dX3_overwriteWith_15 : decode cX3_overwriteWith 15 = .ok (.aload_n 1, 1) := by decide +kernel
theorem dX3_overwriteWith_16 : decode cX3_overwriteWith 16 = .ok (.getfield 27, 3) := by decide +kernel
theorem dX3_overwriteWith_19 : decode cX3_overwriteWith 19 = .ok (.arraylength, 1) := by decide +kernel
theorem dX3_overwriteWith_20 : decode cX3_overwriteWith 20 = .ok (.invokestatic 42, 3) := by decide +kernel
theorem dX3_overwriteWith_23 : decode cX3_overwriteWith 23 = .ok (.invokestatic 45, 3) := by decide +kernel
theorem dX3_overwriteWith_26 : decode cX3_overwriteWith 26 = .ok (.aload_n 0, 1) := by decide +kernel
theorem dX3_overwriteWith_27 : decode cX3_overwriteWith 27 = .ok (.aload_n 1, 1) := by decide +kernel
theorem dX3_overwriteWith_28 : decode cX3_overwriteWith 28 = .ok (.getfield 9, 3) := by decide +kernel
theorem dX3_overwriteWith_31 : decode cX3_overwriteWith 31 = .ok (.putfield 9, 3) := by decide +kernel
theorem dX3_overwriteWith_34 : decode cX3_overwriteWith 34 = .ok (.return_, 1) := by decide +kernel
end
section
theorem dX4_init_0 : decode cX4_init 0 = .ok (.aload_n 0, 1) := by decide +kernel
theorem dX4_init_1 : decode cX4_init 1 = .ok (.invokespecial 1, 3) := by decide +kernel
theorem dX4_init_4 : decode cX4_init 4 = .ok (.aload_n 0, 1) := by decide +kernel
theorem dX4_init_5 : decode cX4_init 5 = .ok (.new 7, 3) := by decide +kernel
theorem dX4_init_8 : decode cX4_init 8 = .ok (.dup, 1) := by decide +kernel
theorem dX4_init_9 : decode cX4_init 9 = .ok (.invokespecial 9, 3) := by decide +kernel
theorem dX4_init_12 : decode cX4_init 12 = .ok (.putfield 10, 3) := by decide +kernel
theorem dX4_init_15 : decode cX4_init 15 = .ok (.aload_n 0, 1) := by decide +kernel
theorem dX4_init_16 : decode cX4_init 16 = .ok (.new 7, 3) := by decide +kernel
theorem dX4_init_19 : decode cX4_init 19 = .ok (.dup, 1) := by decide +kernel
theorem dX4_init_20 : decode cX4_init 20 = .ok (.invokespecial 9, 3) := by decide +kernel
theorem dX4_init_23 : decode cX4_init 23 = .ok (.putfield 16, 3) := by decide +kernel
theorem dX4_init_26 : decode cX4_init 26 = .ok (.aload_n 0, 1) := by decide +kernel
theorem dX4_init_27 : decode cX4_init 27 = .ok (.new 7, 3) := by decide +kernel
theorem dX4_init_30 : decode cX4_init 30 = .ok (.dup, 1) := by decide +kernel
theorem dX4_init_31 : decode cX4_init 31 = .ok (.invokespecial 9, 3) := by decide +kernel
theorem dX4_init_34 : decode cX4_init 34 = .ok (.putfield 19, 3) := by decide +kernel
theorem dX4_init_37 : decode cX4_init 37 = .ok (.aload_n 0, 1) := by decide +kernel
theorem dX4_init_38 : decode cX4_init 38 = .ok (.iconst 0, 1) := by decide +kernel
theorem dX4_init_39 : decode cX4_init 39 = .ok (.putfield 22, 3) := by decide +kernel
theorem dX4_init_42 : decode cX4_init 42 = .ok (.aload_n 0, 1) := by decide +kernel
theorem dX4_init_43 : decode cX4_init 43 = .ok (.new 26, 3) := by decide +kernel
theorem dX4_init_46 : decode cX4_init 46 = .ok (.dup, 1) := by decide +kernel
theorem dX4_init_47 : decode cX4_init 47 = .ok (.invokespecial 28, 3) := by decide +kernel
theorem dX4_init_50 : decode cX4_init 50 = .ok (.putfield 29, 3) := by decide +kernel
theorem dX4_init_53 : decode cX4_init 53 = .ok (.aload_n 0, 1) := by decide +kernel
theorem dX4_init_54 : decode cX4_init 54 = .ok (.new 33, 3) := by decide +kernel
theorem dX4_init_57 : decode cX4_init 57 = .ok (.dup, 1) := by decide +kernel
theorem dX4_init_58 : decode cX4_init 58 = .ok (.invokespecial 35, 3) := by decide +kernel
theorem dX4_init_61 : decode cX4_init 61 = .ok (.putfield 36, 3) := by decide +kernel
theorem dX4_init_64 : decode cX4_init 64 = .ok (.return_, 1) := by decide +kernel
theorem dX4_addCopy_0 : decode cX4_addCopy 0 = .ok (.iload_n 1, 1) := by decide +kernel
theorem dX4_addCopy_1 : decode cX4_addCopy 1 = .ok (.invokestatic 40, 3) := by decide +kernel
theorem dX4_addCopy_4 : decode cX4_addCopy 4 = .ok (.ifCond .eq 10, 3) := by decide +kernel
theorem dX4_addCopy_7 : decode cX4_addCopy 7 = .ok (.iload_n 2, 1) := by decide +kernel
theorem dX4_addCopy_8 : decode cX4_addCopy 8 = .ok (.invokestatic 44, 3) := by decide +kernel
theorem dX4_addCopy_11 : decode cX4_addCopy 11 = .ok (.ifCond .ne 5, 3) := by decide +kernel
theorem dX4_addCopy_14 : decode cX4_addCopy 14 = .ok (.iconst (-1), 1) := by decide +kernel
theorem dX4_addCopy_15 : decode cX4_addCopy 15 = .ok (.ireturn, 1) := by decide +kernel
theorem dX4_addCopy_16 : decode cX4_addCopy 16 = .ok (.aload_n 0, 1) := by decide +kernel
theorem dX4_addCopy_17 : decode cX4_addCopy 17 = .ok (.getfield 10, 3) := by decide +kernel
theorem dX4_addCopy_20 : decode cX4_addCopy 20 = .ok (.getfield 47, 3) := by decide +kernel
theorem dX4_addCopy_23 : decode cX4_addCopy 23 = .ok (.invokevirtual 51, 3) := by decide +kernel
theorem dX4_addCopy_26 : decode cX4_addCopy 26 = .ok (.istore_n 3, 1) := by decide +kernel
theorem dX4_addCopy_27 : decode cX4_addCopy 27 = .ok (.iload_n 3, 1) := by decide +kernel
theorem dX4_addCopy_28 : decode cX4_addCopy 28 = .ok (.ifCond .ge 6, 3) := by decide +kernel
theorem dX4_addCopy_31 : decode cX4_addCopy 31 = .ok (.bipush (-3), 2) := by decide +kernel
theorem dX4_addCopy_33 : decode cX4_addCopy 33 = .ok (.ireturn, 1) := by decide +kernel
theorem dX4_addCopy_34 : decode cX4_addCopy 34 = .ok (.aload_n 0, 1) := by decide +kernel
theorem dX4_addCopy_35 : decode cX4_addCopy 35 = .ok (.getfield 10, 3) := by decide +kernel
theorem dX4_addCopy_38 : decode cX4_addCopy 38 = .ok (.getfield 47, 3) := by decide +kernel
theorem dX4_addCopy_41 : decode cX4_addCopy 41 = .ok (.iload_n 3, 1) := by decide +kernel
theorem dX4_addCopy_42 : decode cX4_addCopy 42 = .ok (.iconst 0, 1) := by decide +kernel
theorem dX4_addCopy_43 : decode cX4_addCopy 43 = .ok (.iload_n 1, 1) := by decide +kernel
theorem dX4_addCopy_44 : decode cX4_addCopy 44 = .ok (.invokevirtual 57, 3) := by decide +kernel
theorem dX4_addCopy_47 : decode cX4_addCopy 47 = .ok (.aload_n 0, 1) := by decide +kernel
theorem dX4_addCopy_48 : decode cX4_addCopy 48 = .ok (.getfield 10, 3) := by decide +kernel
theorem dX4_addCopy_51 : decode cX4_addCopy 51 = .ok (.getfield 47, 3) := by decide +kernel
theorem dX4_addCopy_54 : decode cX4_addCopy 54 = .ok (.iload_n 3, 1) := by decide +kernel
theorem dX4_addCopy_55 : decode cX4_addCopy 55 = .ok (.iconst 1, 1) := by decide +kernel
theorem dX4_addCopy_56 : decode cX4_addCopy 56 = .ok (.iload_n 2, 1) := by decide +kernel
theorem dX4_addCopy_57 : decode cX4_addCopy 57 = .ok (.invokevirtual 57, 3) := by decide +kernel
theorem dX4_addCopy_60 : decode cX4_addCopy 60 = .ok (.aload_n 0, 1) := by decide +kernel
theorem dX4_addCopy_61 : decode cX4_addCopy 61 = .ok (.iload_n 3, 1) := by decide +kernel
theorem dX4_addCopy_62 : decode cX4_addCopy 62 = .ok (.iload_n 2, 1) := by decide +kernel
theorem dX4_addCopy_63 : decode cX4_addCopy 63 = .ok (.invokevirtual 61, 3) := by decide +kernel
theorem dX4_addCopy_66 : decode cX4_addCopy 66 = .ok (.aload_n 0, 1) := by decide +kernel
theorem dX4_addCopy_67 : decode cX4_addCopy 67 = .ok (.iload_n 3, 1) := by decide +kernel
theorem dX4_addCopy_68 : decode cX4_addCopy 68 = .ok (.invokevirtual 65, 3) := by decide +kernel
theorem dX4_addCopy_71 : decode cX4_addCopy 71 = .ok (.ireturn, 1) := by decide +kernel
theorem dX4_addPatron_0 : decode cX4_addPatron 0 = .ok (.aload_n 0, 1) := by decide +kernel
theorem dX4_addPatron_1 : decode cX4_addPatron 1 = .ok (.getfield 10, 3) := by decide +kernel
theorem dX4_addPatron_4 : decode cX4_addPatron 4 = .ok (.getfield 69, 3) := by decide +kernel
theorem dX4_addPatron_7 : decode cX4_addPatron 7 = .ok (.invokevirtual 51, 3) := by decide +kernel
theorem dX4_addPatron_10 : decode cX4_addPatron 10 = .ok (.istore_n 1, 1) := by decide +kernel
theorem dX4_addPatron_11 : decode cX4_addPatron 11 = .ok (.iload_n 1, 1) := by decide +kernel
theorem dX4_addPatron_12 : decode cX4_addPatron 12 = .ok (.ifCond .ge 6, 3) := by decide +kernel
theorem dX4_addPatron_15 : decode cX4_addPatron 15 = .ok (.bipush (-3), 2) := by decide +kernel
theorem dX4_addPatron_17 : decode cX4_addPatron 17 = .ok (.ireturn, 1) := by decide +kernel
theorem dX4_addPatron_18 : decode cX4_addPatron 18 = .ok (.aload_n 0, 1) := by decide +kernel
theorem dX4_addPatron_19 : decode cX4_addPatron 19 = .ok (.iload_n 1, 1) := by decide +kernel
theorem dX4_addPatron_20 : decode cX4_addPatron 20 = .ok (.invokevirtual 65, 3) := by decide +kernel
theorem dX4_addPatron_23 : decode cX4_addPatron 23 = .ok (.ireturn, 1) := by decide +kernel
theorem dX4_set_0 : decode cX4_set 0 = .ok (.aload_n 0, 1) := by decide +kernel
theorem dX4_set_1 : decode cX4_set 1 = .ok (.getfield 10, 3) := by decide +kernel
theorem dX4_set_4 : decode cX4_set 4 = .ok (.getfield 72, 3) := by decide +kernel
theorem dX4_set_7 : decode cX4_set 7 = .ok (.iload_n 1, 1) := by decide +kernel
theorem dX4_set_8 : decode cX4_set 8 = .ok (.invokevirtual 75, 3) := by decide +kernel
theorem dX4_set_11 : decode cX4_set 11 = .ok (.ifCond .eq 11, 3) := by decide +kernel
theorem dX4_set_14 : decode cX4_set 14 = .ok (.iload_n 1, 1) := by decide +kernel
theorem dX4_set_15 : decode cX4_set 15 = .ok (.iload_n 2, 1) := by decide +kernel
theorem dX4_set_16 : decode cX4_set 16 = .ok (.invokestatic 78, 3) := by decide +kernel
theorem dX4_set_19 : decode cX4_set 19 = .ok (.ifCond .ne 5, 3) := by decide +kernel
theorem dX4_set_22 : decode cX4_set 22 = .ok (.iconst (-1), 1) := by decide +kernel
theorem dX4_set_23 : decode cX4_set 23 = .ok (.ireturn, 1) := by decide +kernel
theorem dX4_set_24 : decode cX4_set 24 = .ok (.aload_n 0, 1) := by decide +kernel
theorem dX4_set_25 : decode cX4_set 25 = .ok (.iload_n 1, 1) := by decide +kernel
theorem dX4_set_26 : decode cX4_set 26 = .ok (.invokevirtual 82, 3) := by decide +kernel
theorem dX4_set_29 : decode cX4_set 29 = .ok (.istore_n 3, 1) := by decide +kernel
theorem dX4_set_30 : decode cX4_set 30 = .ok (.aload_n 0, 1) := by decide +kernel
theorem dX4_set_31 : decode cX4_set 31 = .ok (.getfield 10, 3) := by decide +kernel
theorem dX4_set_34 : decode cX4_set 34 = .ok (.getfield 72, 3) := by decide +kernel
theorem dX4_set_37 : decode cX4_set 37 = .ok (.iload_n 1, 1) := by decide +kernel
theorem dX4_set_38 : decode cX4_set 38 = .ok (.iconst 0, 1) := by decide +kernel
theorem dX4_set_39 : decode cX4_set 39 = .ok (.iload_n 2, 1) := by decide +kernel
theorem dX4_set_40 : decode cX4_set 40 = .ok (.invokevirtual 57, 3) := by decide +kernel
theorem dX4_set_43 : decode cX4_set 43 = .ok (.aload_n 0, 1) := by decide +kernel
theorem dX4_set_44 : decode cX4_set 44 = .ok (.iload_n 3, 1) := by decide +kernel
theorem dX4_set_45 : decode cX4_set 45 = .ok (.invokevirtual 65, 3) := by decide +kernel
theorem dX4_set_48 : decode cX4_set 48 = .ok (.ireturn, 1) := by decide +kernel
theorem dX4_setting_0 : decode cX4_setting 0 = .ok (.aload_n 0, 1) := by decide +kernel
theorem dX4_setting_1 : decode cX4_setting 1 = .ok (.getfield 10, 3) := by decide +kernel
theorem dX4_setting_4 : decode cX4_setting 4 = .ok (.getfield 72, 3) := by decide +kernel
theorem dX4_setting_7 : decode cX4_setting 7 = .ok (.iload_n 1, 1) := by decide +kernel
theorem dX4_setting_8 : decode cX4_setting 8 = .ok (.invokevirtual 75, 3) := by decide +kernel
theorem dX4_setting_11 : decode cX4_setting 11 = .ok (.ifCond .eq 11, 3) := by decide +kernel
theorem dX4_setting_14 : decode cX4_setting 14 = .ok (.aload_n 0, 1) := by decide +kernel
theorem dX4_setting_15 : decode cX4_setting 15 = .ok (.iload_n 1, 1) := by decide +kernel
theorem dX4_setting_16 : decode cX4_setting 16 = .ok (.invokevirtual 82, 3) := by decide +kernel
theorem dX4_setting_19 : decode cX4_setting 19 = .ok (.goto 4, 3) := by decide +kernel
theorem dX4_setting_22 : decode cX4_setting 22 = .ok (.iconst (-1), 1) := by decide +kernel
theorem dX4_setting_23 : decode cX4_setting 23 = .ok (.ireturn, 1) := by decide +kernel
theorem dX4_setFloating_0 : decode cX4_setFloating 0 = .ok (.aload_n 0, 1) := by decide +kernel
theorem dX4_setFloating_1 : decode cX4_setFloating 1 = .ok (.iload_n 1, 1) := by decide +kernel
theorem dX4_setFloating_2 : decode cX4_setFloating 2 = .ok (.invokevirtual 85, 3) := by decide +kernel
theorem dX4_setFloating_5 : decode cX4_setFloating 5 = .ok (.ifCond .ne 5, 3) := by decide +kernel
theorem dX4_setFloating_8 : decode cX4_setFloating 8 = .ok (.iconst (-1), 1) := by decide +kernel
theorem dX4_setFloating_9 : decode cX4_setFloating 9 = .ok (.ireturn, 1) := by decide +kernel
theorem dX4_setFloating_10 : decode cX4_setFloating 10 = .ok (.aload_n 0, 1) := by decide +kernel
theorem dX4_setFloating_11 : decode cX4_setFloating 11 = .ok (.getfield 10, 3) := by decide +kernel
theorem dX4_setFloating_14 : decode cX4_setFloating 14 = .ok (.getfield 47, 3) := by decide +kernel
theorem dX4_setFloating_17 : decode cX4_setFloating 17 = .ok (.iload_n 1, 1) := by decide +kernel
theorem dX4_setFloating_18 : decode cX4_setFloating 18 = .ok (.iconst 2, 1) := by decide +kernel
theorem dX4_setFloating_19 : decode cX4_setFloating 19 = .ok (.invokevirtual 88, 3) := by decide +kernel
theorem dX4_setFloating_22 : decode cX4_setFloating 22 = .ok (.istore_n 3, 1) := by decide +kernel
theorem dX4_setFloating_23 : decode cX4_setFloating 23 = .ok (.aload_n 0, 1) := by decide +kernel
theorem dX4_setFloating_24 : decode cX4_setFloating 24 = .ok (.getfield 10, 3) := by decide +kernel
theorem dX4_setFloating_27 : decode cX4_setFloating 27 = .ok (.getfield 47, 3) := by decide +kernel
theorem dX4_setFloating_30 : decode cX4_setFloating 30 = .ok (.iload_n 1, 1) := by decide +kernel
theorem dX4_setFloating_31 : decode cX4_setFloating 31 = .ok (.iconst 2, 1) := by decide +kernel
theorem dX4_setFloating_32 : decode cX4_setFloating 32 = .ok (.iload_n 2, 1) := by decide +kernel
theorem dX4_setFloating_33 : decode cX4_setFloating 33 = .ok (.ifCond .eq 7, 3) := by decide +kernel
theorem dX4_setFloating_36 : decode cX4_setFloating 36 = .ok (.iconst 1, 1) := by decide +kernel
theorem dX4_setFloating_37 : decode cX4_setFloating 37 = .ok (.goto 4, 3) := by decide +kernel
theorem dX4_setFloating_40 : decode cX4_setFloating 40 = .ok (.iconst 0, 1) := by decide +kernel
theorem dX4_setFloating_41 : decode cX4_setFloating 41 = .ok (.invokevirtual 57, 3) := by decide +kernel
theorem dX4_setFloating_44 : decode cX4_setFloating 44 = .ok (.aload_n 0, 1) := by decide +kernel
theorem dX4_setFloating_45 : decode cX4_setFloating 45 = .ok (.iload_n 3, 1) := by decide +kernel
theorem dX4_setFloating_46 : decode cX4_setFloating 46 = .ok (.invokevirtual 65, 3) := by decide +kernel
theorem dX4_setFloating_49 : decode cX4_setFloating 49 = .ok (.ireturn, 1) := by decide +kernel
theorem dX4_copyCount_0 : decode cX4_copyCount 0 = .ok (.iload_n 1, 1) := by decide +kernel
theorem dX4_copyCount_1 : decode cX4_copyCount 1 = .ok (.iconst (-1), 1) := by decide +kernel
theorem dX4_copyCount_2 : decode cX4_copyCount 2 = .ok (.if_icmp .ne 14, 3) := by decide +kernel
theorem dX4_copyCount_5 : decode cX4_copyCount 5 = .ok (.aload_n 0, 1) := by decide +kernel
theorem dX4_copyCount_6 : decode cX4_copyCount 6 = .ok (.getfield 10, 3) := by decide +kernel
theorem dX4_copyCount_9 : decode cX4_copyCount 9 = .ok (.getfield 47, 3) := by decide +kernel
theorem dX4_copyCount_12 : decode cX4_copyCount 12 = .ok (.invokevirtual 92, 3) := by decide +kernel
theorem dX4_copyCount_15 : decode cX4_copyCount 15 = .ok (.ireturn, 1) := by decide +kernel
theorem dX4_copyCount_16 : decode cX4_copyCount 16 = .ok (.iload_n 1, 1) := by decide +kernel
theorem dX4_copyCount_17 : decode cX4_copyCount 17 = .ok (.ifCond .lt 9, 3) := by decide +kernel
theorem dX4_copyCount_20 : decode cX4_copyCount 20 = .ok (.iload_n 1, 1) := by decide +kernel
theorem dX4_copyCount_21 : decode cX4_copyCount 21 = .ok (.bipush 6, 2) := by decide +kernel
theorem dX4_copyCount_23 : decode cX4_copyCount 23 = .ok (.if_icmp .lt 5, 3) := by decide +kernel
theorem dX4_copyCount_26 : decode cX4_copyCount 26 = .ok (.iconst (-1), 1) := by decide +kernel
theorem dX4_copyCount_27 : decode cX4_copyCount 27 = .ok (.ireturn, 1) := by decide +kernel
theorem dX4_copyCount_28 : decode cX4_copyCount 28 = .ok (.iconst 0, 1) := by decide +kernel
theorem dX4_copyCount_29 : decode cX4_copyCount 29 = .ok (.istore_n 2, 1) := by decide +kernel
theorem dX4_copyCount_30 : decode cX4_copyCount 30 = .ok (.iconst 0, 1) := by decide +kernel
theorem dX4_copyCount_31 : decode cX4_copyCount 31 = .ok (.istore_n 3, 1) := by decide +kernel
theorem dX4_copyCount_32 : decode cX4_copyCount 32 = .ok (.iload_n 3, 1) := by decide +kernel
theorem dX4_copyCount_33 : decode cX4_copyCount 33 = .ok (.aload_n 0, 1) := by decide +kernel
theorem dX4_copyCount_34 : decode cX4_copyCount 34 = .ok (.getfield 10, 3) := by decide +kernel
theorem dX4_copyCount_37 : decode cX4_copyCount 37 = .ok (.getfield 47, 3) := by decide +kernel
theorem dX4_copyCount_40 : decode cX4_copyCount 40 = .ok (.invokevirtual 92, 3) := by decide +kernel
theorem dX4_copyCount_43 : decode cX4_copyCount 43 = .ok (.if_icmp .ge 21, 3) := by decide +kernel
theorem dX4_copyCount_46 : decode cX4_copyCount 46 = .ok (.aload_n 0, 1) := by decide +kernel
theorem dX4_copyCount_47 : decode cX4_copyCount 47 = .ok (.iload_n 3, 1) := by decide +kernel
theorem dX4_copyCount_48 : decode cX4_copyCount 48 = .ok (.invokevirtual 95, 3) := by decide +kernel
theorem dX4_copyCount_51 : decode cX4_copyCount 51 = .ok (.iload_n 1, 1) := by decide +kernel
theorem dX4_copyCount_52 : decode cX4_copyCount 52 = .ok (.if_icmp .ne 6, 3) := by decide +kernel
theorem dX4_copyCount_55 : decode cX4_copyCount 55 = .ok (.iinc 2 1, 3) := by decide +kernel
theorem dX4_copyCount_58 : decode cX4_copyCount 58 = .ok (.iinc 3 1, 3) := by decide +kernel
theorem dX4_copyCount_61 : decode cX4_copyCount 61 = .ok (.goto (-29), 3) := by decide +kernel
theorem dX4_copyCount_64 : decode cX4_copyCount 64 = .ok (.iload_n 2, 1) := by decide +kernel
theorem dX4_copyCount_65 : decode cX4_copyCount 65 = .ok (.ireturn, 1) := by decide +kernel
theorem dX4_copy_0 : decode cX4_copy 0 = .ok (.aload_n 0, 1) := by decide +kernel
theorem dX4_copy_1 : decode cX4_copy 1 = .ok (.iload_n 1, 1) := by decide +kernel
theorem dX4_copy_2 : decode cX4_copy 2 = .ok (.invokevirtual 85, 3) := by decide +kernel
theorem dX4_copy_5 : decode cX4_copy 5 = .ok (.ifCond .eq 13, 3) := by decide +kernel
theorem dX4_copy_8 : decode cX4_copy 8 = .ok (.iload_n 2, 1) := by decide +kernel
theorem dX4_copy_9 : decode cX4_copy 9 = .ok (.ifCond .lt 9, 3) := by decide +kernel
theorem dX4_copy_12 : decode cX4_copy 12 = .ok (.iload_n 2, 1) := by decide +kernel
theorem dX4_copy_13 : decode cX4_copy 13 = .ok (.bipush 10, 2) := by decide +kernel
theorem dX4_copy_15 : decode cX4_copy 15 = .ok (.if_icmp .lt 5, 3) := by decide +kernel
theorem dX4_copy_18 : decode cX4_copy 18 = .ok (.iconst (-1), 1) := by decide +kernel
theorem dX4_copy_19 : decode cX4_copy 19 = .ok (.ireturn, 1) := by decide +kernel
theorem dX4_copy_20 : decode cX4_copy 20 = .ok (.aload_n 0, 1) := by decide +kernel
theorem dX4_copy_21 : decode cX4_copy 21 = .ok (.getfield 10, 3) := by decide +kernel
theorem dX4_copy_24 : decode cX4_copy 24 = .ok (.getfield 47, 3) := by decide +kernel
theorem dX4_copy_27 : decode cX4_copy 27 = .ok (.iload_n 1, 1) := by decide +kernel
theorem dX4_copy_28 : decode cX4_copy 28 = .ok (.iload_n 2, 1) := by decide +kernel
theorem dX4_copy_29 : decode cX4_copy 29 = .ok (.invokevirtual 88, 3) := by decide +kernel
theorem dX4_copy_32 : decode cX4_copy 32 = .ok (.ireturn, 1) := by decide +kernel
theorem dX4_day_0 : decode cX4_day 0 = .ok (.aload_n 0, 1) := by decide +kernel
theorem dX4_day_1 : decode cX4_day 1 = .ok (.getfield 10, 3) := by decide +kernel
theorem dX4_day_4 : decode cX4_day 4 = .ok (.getfield 98, 3) := by decide +kernel
theorem dX4_day_7 : decode cX4_day 7 = .ok (.ireturn, 1) := by decide +kernel
theorem dX4_pass_0 : decode cX4_pass 0 = .ok (.aload_n 0, 1) := by decide +kernel
theorem dX4_pass_1 : decode cX4_pass 1 = .ok (.aload_n 0, 1) := by decide +kernel
theorem dX4_pass_2 : decode cX4_pass 2 = .ok (.iload_n 1, 1) := by decide +kernel
theorem dX4_pass_3 : decode cX4_pass 3 = .ok (.invokevirtual 102, 3) := by decide +kernel
theorem dX4_pass_6 : decode cX4_pass 6 = .ok (.invokevirtual 65, 3) := by decide +kernel
theorem dX4_pass_9 : decode cX4_pass 9 = .ok (.ireturn, 1) := by decide +kernel
theorem dX4_letPass_0 : decode cX4_letPass 0 = .ok (.iload_n 1, 1) := by decide +kernel
theorem dX4_letPass_1 : decode cX4_letPass 1 = .ok (.iconst 1, 1) := by decide +kernel
theorem dX4_letPass_2 : decode cX4_letPass 2 = .ok (.if_icmp .lt 10, 3) := by decide +kernel
theorem dX4_letPass_5 : decode cX4_letPass 5 = .ok (.iload_n 1, 1) := by decide +kernel
theorem dX4_letPass_6 : decode cX4_letPass 6 = .ok (.sipush 400, 3) := by decide +kernel
theorem dX4_letPass_9 : decode cX4_letPass 9 = .ok (.if_icmp .le 5, 3) := by decide +kernel
theorem dX4_letPass_12 : decode cX4_letPass 12 = .ok (.iconst (-1), 1) := by decide +kernel
theorem dX4_letPass_13 : decode cX4_letPass 13 = .ok (.ireturn, 1) := by decide +kernel
theorem dX4_letPass_14 : decode cX4_letPass 14 = .ok (.iconst 0, 1) := by decide +kernel
theorem dX4_letPass_15 : decode cX4_letPass 15 = .ok (.istore_n 2, 1) := by decide +kernel
theorem dX4_letPass_16 : decode cX4_letPass 16 = .ok (.iload_n 2, 1) := by decide +kernel
theorem dX4_letPass_17 : decode cX4_letPass 17 = .ok (.iload_n 1, 1) := by decide +kernel
theorem dX4_letPass_18 : decode cX4_letPass 18 = .ok (.if_icmp .ge 34, 3) := by decide +kernel
theorem dX4_letPass_21 : decode cX4_letPass 21 = .ok (.aload_n 0, 1) := by decide +kernel
theorem dX4_letPass_22 : decode cX4_letPass 22 = .ok (.getfield 10, 3) := by decide +kernel
theorem dX4_letPass_25 : decode cX4_letPass 25 = .ok (.dup, 1) := by decide +kernel
theorem dX4_letPass_26 : decode cX4_letPass 26 = .ok (.getfield 98, 3) := by decide +kernel
theorem dX4_letPass_29 : decode cX4_letPass 29 = .ok (.iconst 1, 1) := by decide +kernel
theorem dX4_letPass_30 : decode cX4_letPass 30 = .ok (.iadd, 1) := by decide +kernel
theorem dX4_letPass_31 : decode cX4_letPass 31 = .ok (.putfield 98, 3) := by decide +kernel
theorem dX4_letPass_34 : decode cX4_letPass 34 = .ok (.aload_n 0, 1) := by decide +kernel
theorem dX4_letPass_35 : decode cX4_letPass 35 = .ok (.invokevirtual 105, 3) := by decide +kernel
theorem dX4_letPass_38 : decode cX4_letPass 38 = .ok (.aload_n 0, 1) := by decide +kernel
theorem dX4_letPass_39 : decode cX4_letPass 39 = .ok (.invokevirtual 108, 3) := by decide +kernel
theorem dX4_letPass_42 : decode cX4_letPass 42 = .ok (.aload_n 0, 1) := by decide +kernel
theorem dX4_letPass_43 : decode cX4_letPass 43 = .ok (.invokevirtual 111, 3) := by decide +kernel
theorem dX4_letPass_46 : decode cX4_letPass 46 = .ok (.iinc 2 1, 3) := by decide +kernel
theorem dX4_letPass_49 : decode cX4_letPass 49 = .ok (.goto (-33), 3) := by decide +kernel
theorem dX4_letPass_52 : decode cX4_letPass 52 = .ok (.aload_n 0, 1) := by decide +kernel
theorem dX4_letPass_53 : decode cX4_letPass 53 = .ok (.getfield 10, 3) := by decide +kernel
theorem dX4_letPass_56 : decode cX4_letPass 56 = .ok (.getfield 98, 3) := by decide +kernel
theorem dX4_letPass_59 : decode cX4_letPass 59 = .ok (.ireturn, 1) := by decide +kernel
theorem dX4_arriveOnThisDay_0 : decode cX4_arriveOnThisDay 0 = .ok (.iconst 0, 1) := by decide +kernel
theorem dX4_arriveOnThisDay_1 : decode cX4_arriveOnThisDay 1 = .ok (.istore_n 1, 1) := by decide +kernel
theorem dX4_arriveOnThisDay_2 : decode cX4_arriveOnThisDay 2 = .ok (.iload_n 1, 1) := by decide +kernel
theorem dX4_arriveOnThisDay_3 : decode cX4_arriveOnThisDay 3 = .ok (.aload_n 0, 1) := by decide +kernel
theorem dX4_arriveOnThisDay_4 : decode cX4_arriveOnThisDay 4 = .ok (.getfield 10, 3) := by decide +kernel
theorem dX4_arriveOnThisDay_7 : decode cX4_arriveOnThisDay 7 = .ok (.getfield 47, 3) := by decide +kernel
theorem dX4_arriveOnThisDay_10 : decode cX4_arriveOnThisDay 10 = .ok (.invokevirtual 92, 3) := by decide +kernel
theorem dX4_arriveOnThisDay_13 : decode cX4_arriveOnThisDay 13 = .ok (.if_icmp .ge 103, 3) := by decide +kernel
theorem dX4_arriveOnThisDay_16 : decode cX4_arriveOnThisDay 16 = .ok (.aload_n 0, 1) := by decide +kernel
theorem dX4_arriveOnThisDay_17 : decode cX4_arriveOnThisDay 17 = .ok (.iload_n 1, 1) := by decide +kernel
theorem dX4_arriveOnThisDay_18 : decode cX4_arriveOnThisDay 18 = .ok (.invokevirtual 95, 3) := by decide +kernel
theorem dX4_arriveOnThisDay_21 : decode cX4_arriveOnThisDay 21 = .ok (.iconst 2, 1) := by decide +kernel
theorem dX4_arriveOnThisDay_22 : decode cX4_arriveOnThisDay 22 = .ok (.if_icmp .ne 88, 3) := by decide +kernel
theorem dX4_arriveOnThisDay_25 : decode cX4_arriveOnThisDay 25 = .ok (.aload_n 0, 1) := by decide +kernel
theorem dX4_arriveOnThisDay_26 : decode cX4_arriveOnThisDay 26 = .ok (.getfield 10, 3) := by decide +kernel
theorem dX4_arriveOnThisDay_29 : decode cX4_arriveOnThisDay 29 = .ok (.getfield 47, 3) := by decide +kernel
theorem dX4_arriveOnThisDay_32 : decode cX4_arriveOnThisDay 32 = .ok (.iload_n 1, 1) := by decide +kernel
theorem dX4_arriveOnThisDay_33 : decode cX4_arriveOnThisDay 33 = .ok (.bipush 6, 2) := by decide +kernel
theorem dX4_arriveOnThisDay_35 : decode cX4_arriveOnThisDay 35 = .ok (.invokevirtual 88, 3) := by decide +kernel
theorem dX4_arriveOnThisDay_38 : decode cX4_arriveOnThisDay 38 = .ok (.aload_n 0, 1) := by decide +kernel
theorem dX4_arriveOnThisDay_39 : decode cX4_arriveOnThisDay 39 = .ok (.getfield 10, 3) := by decide +kernel
theorem dX4_arriveOnThisDay_42 : decode cX4_arriveOnThisDay 42 = .ok (.getfield 98, 3) := by decide +kernel
theorem dX4_arriveOnThisDay_45 : decode cX4_arriveOnThisDay 45 = .ok (.if_icmp .le 6, 3) := by decide +kernel
theorem dX4_arriveOnThisDay_48 : decode cX4_arriveOnThisDay 48 = .ok (.goto 62, 3) := by decide +kernel
theorem dX4_arriveOnThisDay_51 : decode cX4_arriveOnThisDay 51 = .ok (.aload_n 0, 1) := by decide +kernel
theorem dX4_arriveOnThisDay_52 : decode cX4_arriveOnThisDay 52 = .ok (.getfield 10, 3) := by decide +kernel
theorem dX4_arriveOnThisDay_55 : decode cX4_arriveOnThisDay 55 = .ok (.getfield 47, 3) := by decide +kernel
theorem dX4_arriveOnThisDay_58 : decode cX4_arriveOnThisDay 58 = .ok (.iload_n 1, 1) := by decide +kernel
theorem dX4_arriveOnThisDay_59 : decode cX4_arriveOnThisDay 59 = .ok (.iconst 4, 1) := by decide +kernel
theorem dX4_arriveOnThisDay_60 : decode cX4_arriveOnThisDay 60 = .ok (.invokevirtual 88, 3) := by decide +kernel
theorem dX4_arriveOnThisDay_63 : decode cX4_arriveOnThisDay 63 = .ok (.istore_n 2, 1) := by decide +kernel
theorem dX4_arriveOnThisDay_64 : decode cX4_arriveOnThisDay 64 = .ok (.aload_n 0, 1) := by decide +kernel
theorem dX4_arriveOnThisDay_65 : decode cX4_arriveOnThisDay 65 = .ok (.getfield 10, 3) := by decide +kernel
theorem dX4_arriveOnThisDay_68 : decode cX4_arriveOnThisDay 68 = .ok (.getfield 47, 3) := by decide +kernel
theorem dX4_arriveOnThisDay_71 : decode cX4_arriveOnThisDay 71 = .ok (.iload_n 1, 1) := by decide +kernel
theorem dX4_arriveOnThisDay_72 : decode cX4_arriveOnThisDay 72 = .ok (.iconst 5, 1) := by decide +kernel
theorem dX4_arriveOnThisDay_73 : decode cX4_arriveOnThisDay 73 = .ok (.invokevirtual 88, 3) := by decide +kernel
theorem dX4_arriveOnThisDay_76 : decode cX4_arriveOnThisDay 76 = .ok (.bipush (-2), 2) := by decide +kernel
theorem dX4_arriveOnThisDay_78 : decode cX4_arriveOnThisDay 78 = .ok (.if_icmp .ne 12, 3) := by decide +kernel
theorem dX4_arriveOnThisDay_81 : decode cX4_arriveOnThisDay 81 = .ok (.aload_n 0, 1) := by decide +kernel
theorem dX4_arriveOnThisDay_82 : decode cX4_arriveOnThisDay 82 = .ok (.iload_n 1, 1) := by decide +kernel
theorem dX4_arriveOnThisDay_83 : decode cX4_arriveOnThisDay 83 = .ok (.iload_n 2, 1) := by decide +kernel
theorem dX4_arriveOnThisDay_84 : decode cX4_arriveOnThisDay 84 = .ok (.invokevirtual 61, 3) := by decide +kernel
theorem dX4_arriveOnThisDay_87 : decode cX4_arriveOnThisDay 87 = .ok (.goto 23, 3) := by decide +kernel
theorem dX4_arriveOnThisDay_90 : decode cX4_arriveOnThisDay 90 = .ok (.aload_n 0, 1) := by decide +kernel
theorem dX4_arriveOnThisDay_91 : decode cX4_arriveOnThisDay 91 = .ok (.iload_n 1, 1) := by decide +kernel
theorem dX4_arriveOnThisDay_92 : decode cX4_arriveOnThisDay 92 = .ok (.iconst 3, 1) := by decide +kernel
theorem dX4_arriveOnThisDay_93 : decode cX4_arriveOnThisDay 93 = .ok (.iload_n 2, 1) := by decide +kernel
theorem dX4_arriveOnThisDay_94 : decode cX4_arriveOnThisDay 94 = .ok (.aload_n 0, 1) := by decide +kernel
theorem dX4_arriveOnThisDay_95 : decode cX4_arriveOnThisDay 95 = .ok (.getfield 10, 3) := by decide +kernel
theorem dX4_arriveOnThisDay_98 : decode cX4_arriveOnThisDay 98 = .ok (.getfield 98, 3) := by decide +kernel
theorem dX4_arriveOnThisDay_101 : decode cX4_arriveOnThisDay 101 = .ok (.aload_n 0, 1) := by decide +kernel
theorem dX4_arriveOnThisDay_102 : decode cX4_arriveOnThisDay 102 = .ok (.iconst 5, 1) := by decide +kernel
theorem dX4_arriveOnThisDay_103 : decode cX4_arriveOnThisDay 103 = .ok (.invokevirtual 82, 3) := by decide +kernel
theorem dX4_arriveOnThisDay_106 : decode cX4_arriveOnThisDay 106 = .ok (.iadd, 1) := by decide +kernel
theorem dX4_arriveOnThisDay_107 : decode cX4_arriveOnThisDay 107 = .ok (.invokevirtual 114, 3) := by decide +kernel
theorem dX4_arriveOnThisDay_110 : decode cX4_arriveOnThisDay 110 = .ok (.iinc 1 1, 3) := by decide +kernel
theorem dX4_arriveOnThisDay_113 : decode cX4_arriveOnThisDay 113 = .ok (.goto (-111), 3) := by decide +kernel
theorem dX4_arriveOnThisDay_116 : decode cX4_arriveOnThisDay 116 = .ok (.return_, 1) := by decide +kernel
theorem dX4_expireBeforeThisDay_0 : decode cX4_expireBeforeThisDay 0 = .ok (.iconst 0, 1) := by decide +kernel
theorem dX4_expireBeforeThisDay_1 : decode cX4_expireBeforeThisDay 1 = .ok (.istore_n 1, 1) := by decide +kernel
theorem dX4_expireBeforeThisDay_2 : decode cX4_expireBeforeThisDay 2 = .ok (.iload_n 1, 1) := by decide +kernel
theorem dX4_expireBeforeThisDay_3 : decode cX4_expireBeforeThisDay 3 = .ok (.aload_n 0, 1) := by decide +kernel
theorem dX4_expireBeforeThisDay_4 : decode cX4_expireBeforeThisDay 4 = .ok (.getfield 10, 3) := by decide +kernel
theorem dX4_expireBeforeThisDay_7 : decode cX4_expireBeforeThisDay 7 = .ok (.getfield 47, 3) := by decide +kernel
theorem dX4_expireBeforeThisDay_10 : decode cX4_expireBeforeThisDay 10 = .ok (.invokevirtual 92, 3) := by decide +kernel
theorem dX4_expireBeforeThisDay_13 : decode cX4_expireBeforeThisDay 13 = .ok (.if_icmp .ge 86, 3) := by decide +kernel
theorem dX4_expireBeforeThisDay_16 : decode cX4_expireBeforeThisDay 16 = .ok (.aload_n 0, 1) := by decide +kernel
theorem dX4_expireBeforeThisDay_17 : decode cX4_expireBeforeThisDay 17 = .ok (.iload_n 1, 1) := by decide +kernel
theorem dX4_expireBeforeThisDay_18 : decode cX4_expireBeforeThisDay 18 = .ok (.invokevirtual 95, 3) := by decide +kernel
theorem dX4_expireBeforeThisDay_21 : decode cX4_expireBeforeThisDay 21 = .ok (.iconst 3, 1) := by decide +kernel
theorem dX4_expireBeforeThisDay_22 : decode cX4_expireBeforeThisDay 22 = .ok (.if_icmp .ne 71, 3) := by decide +kernel
theorem dX4_expireBeforeThisDay_25 : decode cX4_expireBeforeThisDay 25 = .ok (.aload_n 0, 1) := by decide +kernel
theorem dX4_expireBeforeThisDay_26 : decode cX4_expireBeforeThisDay 26 = .ok (.getfield 10, 3) := by decide +kernel
theorem dX4_expireBeforeThisDay_29 : decode cX4_expireBeforeThisDay 29 = .ok (.getfield 47, 3) := by decide +kernel
theorem dX4_expireBeforeThisDay_32 : decode cX4_expireBeforeThisDay 32 = .ok (.iload_n 1, 1) := by decide +kernel
theorem dX4_expireBeforeThisDay_33 : decode cX4_expireBeforeThisDay 33 = .ok (.bipush 6, 2) := by decide +kernel
theorem dX4_expireBeforeThisDay_35 : decode cX4_expireBeforeThisDay 35 = .ok (.invokevirtual 88, 3) := by decide +kernel
theorem dX4_expireBeforeThisDay_38 : decode cX4_expireBeforeThisDay 38 = .ok (.aload_n 0, 1) := by decide +kernel
theorem dX4_expireBeforeThisDay_39 : decode cX4_expireBeforeThisDay 39 = .ok (.getfield 10, 3) := by decide +kernel
theorem dX4_expireBeforeThisDay_42 : decode cX4_expireBeforeThisDay 42 = .ok (.getfield 98, 3) := by decide +kernel
theorem dX4_expireBeforeThisDay_45 : decode cX4_expireBeforeThisDay 45 = .ok (.if_icmp .lt 6, 3) := by decide +kernel
theorem dX4_expireBeforeThisDay_48 : decode cX4_expireBeforeThisDay 48 = .ok (.goto 45, 3) := by decide +kernel
theorem dX4_expireBeforeThisDay_51 : decode cX4_expireBeforeThisDay 51 = .ok (.aload_n 0, 1) := by decide +kernel
theorem dX4_expireBeforeThisDay_52 : decode cX4_expireBeforeThisDay 52 = .ok (.aload_n 0, 1) := by decide +kernel
theorem dX4_expireBeforeThisDay_53 : decode cX4_expireBeforeThisDay 53 = .ok (.aload_n 0, 1) := by decide +kernel
theorem dX4_expireBeforeThisDay_54 : decode cX4_expireBeforeThisDay 54 = .ok (.getfield 10, 3) := by decide +kernel
theorem dX4_expireBeforeThisDay_57 : decode cX4_expireBeforeThisDay 57 = .ok (.getfield 47, 3) := by decide +kernel
theorem dX4_expireBeforeThisDay_60 : decode cX4_expireBeforeThisDay 60 = .ok (.iload_n 1, 1) := by decide +kernel
theorem dX4_expireBeforeThisDay_61 : decode cX4_expireBeforeThisDay 61 = .ok (.iconst 5, 1) := by decide +kernel
theorem dX4_expireBeforeThisDay_62 : decode cX4_expireBeforeThisDay 62 = .ok (.invokevirtual 88, 3) := by decide +kernel
theorem dX4_expireBeforeThisDay_65 : decode cX4_expireBeforeThisDay 65 = .ok (.aload_n 0, 1) := by decide +kernel
theorem dX4_expireBeforeThisDay_66 : decode cX4_expireBeforeThisDay 66 = .ok (.iload_n 1, 1) := by decide +kernel
theorem dX4_expireBeforeThisDay_67 : decode cX4_expireBeforeThisDay 67 = .ok (.invokevirtual 118, 3) := by decide +kernel
theorem dX4_expireBeforeThisDay_70 : decode cX4_expireBeforeThisDay 70 = .ok (.invokevirtual 121, 3) := by decide +kernel
theorem dX4_expireBeforeThisDay_73 : decode cX4_expireBeforeThisDay 73 = .ok (.invokevirtual 124, 3) := by decide +kernel
theorem dX4_expireBeforeThisDay_76 : decode cX4_expireBeforeThisDay 76 = .ok (.aload_n 0, 1) := by decide +kernel
theorem dX4_expireBeforeThisDay_77 : decode cX4_expireBeforeThisDay 77 = .ok (.iload_n 1, 1) := by decide +kernel
theorem dX4_expireBeforeThisDay_78 : decode cX4_expireBeforeThisDay 78 = .ok (.aload_n 0, 1) := by decide +kernel
theorem dX4_expireBeforeThisDay_79 : decode cX4_expireBeforeThisDay 79 = .ok (.getfield 10, 3) := by decide +kernel
theorem dX4_expireBeforeThisDay_82 : decode cX4_expireBeforeThisDay 82 = .ok (.getfield 47, 3) := by decide +kernel
theorem dX4_expireBeforeThisDay_85 : decode cX4_expireBeforeThisDay 85 = .ok (.iload_n 1, 1) := by decide +kernel
theorem dX4_expireBeforeThisDay_86 : decode cX4_expireBeforeThisDay 86 = .ok (.iconst 4, 1) := by decide +kernel
theorem dX4_expireBeforeThisDay_87 : decode cX4_expireBeforeThisDay 87 = .ok (.invokevirtual 88, 3) := by decide +kernel
theorem dX4_expireBeforeThisDay_90 : decode cX4_expireBeforeThisDay 90 = .ok (.invokevirtual 61, 3) := by decide +kernel
theorem dX4_expireBeforeThisDay_93 : decode cX4_expireBeforeThisDay 93 = .ok (.iinc 1 1, 3) := by decide +kernel
theorem dX4_expireBeforeThisDay_96 : decode cX4_expireBeforeThisDay 96 = .ok (.goto (-94), 3) := by decide +kernel
theorem dX4_expireBeforeThisDay_99 : decode cX4_expireBeforeThisDay 99 = .ok (.return_, 1) := by decide +kernel
theorem dX4_endClaims_0 : decode cX4_endClaims 0 = .ok (.iconst 0, 1) := by decide +kernel
theorem dX4_endClaims_1 : decode cX4_endClaims 1 = .ok (.istore_n 1, 1) := by decide +kernel
theorem dX4_endClaims_2 : decode cX4_endClaims 2 = .ok (.iload_n 1, 1) := by decide +kernel
theorem dX4_endClaims_3 : decode cX4_endClaims 3 = .ok (.aload_n 0, 1) := by decide +kernel
theorem dX4_endClaims_4 : decode cX4_endClaims 4 = .ok (.getfield 10, 3) := by decide +kernel
theorem dX4_endClaims_7 : decode cX4_endClaims 7 = .ok (.getfield 47, 3) := by decide +kernel
theorem dX4_endClaims_10 : decode cX4_endClaims 10 = .ok (.invokevirtual 92, 3) := by decide +kernel
theorem dX4_endClaims_13 : decode cX4_endClaims 13 = .ok (.if_icmp .ge 56, 3) := by decide +kernel
theorem dX4_endClaims_16 : decode cX4_endClaims 16 = .ok (.aload_n 0, 1) := by decide +kernel
theorem dX4_endClaims_17 : decode cX4_endClaims 17 = .ok (.iload_n 1, 1) := by decide +kernel
theorem dX4_endClaims_18 : decode cX4_endClaims 18 = .ok (.invokevirtual 95, 3) := by decide +kernel
theorem dX4_endClaims_21 : decode cX4_endClaims 21 = .ok (.iconst 4, 1) := by decide +kernel
theorem dX4_endClaims_22 : decode cX4_endClaims 22 = .ok (.if_icmp .eq 6, 3) := by decide +kernel
theorem dX4_endClaims_25 : decode cX4_endClaims 25 = .ok (.goto 38, 3) := by decide +kernel
theorem dX4_endClaims_28 : decode cX4_endClaims 28 = .ok (.aload_n 0, 1) := by decide +kernel
theorem dX4_endClaims_29 : decode cX4_endClaims 29 = .ok (.getfield 10, 3) := by decide +kernel
theorem dX4_endClaims_32 : decode cX4_endClaims 32 = .ok (.getfield 98, 3) := by decide +kernel
theorem dX4_endClaims_35 : decode cX4_endClaims 35 = .ok (.aload_n 0, 1) := by decide +kernel
theorem dX4_endClaims_36 : decode cX4_endClaims 36 = .ok (.getfield 10, 3) := by decide +kernel
theorem dX4_endClaims_39 : decode cX4_endClaims 39 = .ok (.getfield 47, 3) := by decide +kernel
theorem dX4_endClaims_42 : decode cX4_endClaims 42 = .ok (.iload_n 1, 1) := by decide +kernel
theorem dX4_endClaims_43 : decode cX4_endClaims 43 = .ok (.bipush 6, 2) := by decide +kernel
theorem dX4_endClaims_45 : decode cX4_endClaims 45 = .ok (.invokevirtual 88, 3) := by decide +kernel
theorem dX4_endClaims_48 : decode cX4_endClaims 48 = .ok (.isub, 1) := by decide +kernel
theorem dX4_endClaims_49 : decode cX4_endClaims 49 = .ok (.aload_n 0, 1) := by decide +kernel
theorem dX4_endClaims_50 : decode cX4_endClaims 50 = .ok (.bipush 7, 2) := by decide +kernel
theorem dX4_endClaims_52 : decode cX4_endClaims 52 = .ok (.invokevirtual 82, 3) := by decide +kernel
theorem dX4_endClaims_55 : decode cX4_endClaims 55 = .ok (.if_icmp .lt 8, 3) := by decide +kernel
theorem dX4_endClaims_58 : decode cX4_endClaims 58 = .ok (.aload_n 0, 1) := by decide +kernel
theorem dX4_endClaims_59 : decode cX4_endClaims 59 = .ok (.iload_n 1, 1) := by decide +kernel
theorem dX4_endClaims_60 : decode cX4_endClaims 60 = .ok (.invokevirtual 128, 3) := by decide +kernel
theorem dX4_endClaims_63 : decode cX4_endClaims 63 = .ok (.iinc 1 1, 3) := by decide +kernel
theorem dX4_endClaims_66 : decode cX4_endClaims 66 = .ok (.goto (-64), 3) := by decide +kernel
theorem dX4_endClaims_69 : decode cX4_endClaims 69 = .ok (.return_, 1) := by decide +kernel
theorem dX4_lend_0 : decode cX4_lend 0 = .ok (.aload_n 0, 1) := by decide +kernel
theorem dX4_lend_1 : decode cX4_lend 1 = .ok (.aload_n 0, 1) := by decide +kernel
theorem dX4_lend_2 : decode cX4_lend 2 = .ok (.iload_n 1, 1) := by decide +kernel
theorem dX4_lend_3 : decode cX4_lend 3 = .ok (.iload_n 2, 1) := by decide +kernel
theorem dX4_lend_4 : decode cX4_lend 4 = .ok (.invokevirtual 131, 3) := by decide +kernel
theorem dX4_lend_7 : decode cX4_lend 7 = .ok (.invokevirtual 65, 3) := by decide +kernel
theorem dX4_lend_10 : decode cX4_lend 10 = .ok (.ireturn, 1) := by decide +kernel
theorem dX4_lendOut_0 : decode cX4_lendOut 0 = .ok (.aload_n 0, 1) := by decide +kernel
theorem dX4_lendOut_1 : decode cX4_lendOut 1 = .ok (.iload_n 1, 1) := by decide +kernel
theorem dX4_lendOut_2 : decode cX4_lendOut 2 = .ok (.iload_n 2, 1) := by decide +kernel
theorem dX4_lendOut_3 : decode cX4_lendOut 3 = .ok (.invokevirtual 134, 3) := by decide +kernel
theorem dX4_lendOut_6 : decode cX4_lendOut 6 = .ok (.istore_n 3, 1) := by decide +kernel
theorem dX4_lendOut_7 : decode cX4_lendOut 7 = .ok (.iload_n 3, 1) := by decide +kernel
theorem dX4_lendOut_8 : decode cX4_lendOut 8 = .ok (.ifCond .eq 8, 3) := by decide +kernel
theorem dX4_lendOut_11 : decode cX4_lendOut 11 = .ok (.iload_n 3, 1) := by decide +kernel
theorem dX4_lendOut_12 : decode cX4_lendOut 12 = .ok (.invokestatic 137, 3) := by decide +kernel
theorem dX4_lendOut_15 : decode cX4_lendOut 15 = .ok (.ireturn, 1) := by decide +kernel
theorem dX4_lendOut_16 : decode cX4_lendOut 16 = .ok (.aload_n 0, 1) := by decide +kernel
theorem dX4_lendOut_17 : decode cX4_lendOut 17 = .ok (.iload_n 2, 1) := by decide +kernel
theorem dX4_lendOut_18 : decode cX4_lendOut 18 = .ok (.invokevirtual 95, 3) := by decide +kernel
theorem dX4_lendOut_21 : decode cX4_lendOut 21 = .ok (.iconst 3, 1) := by decide +kernel
theorem dX4_lendOut_22 : decode cX4_lendOut 22 = .ok (.if_icmp .ne 17, 3) := by decide +kernel
theorem dX4_lendOut_25 : decode cX4_lendOut 25 = .ok (.aload_n 0, 1) := by decide +kernel
theorem dX4_lendOut_26 : decode cX4_lendOut 26 = .ok (.aload_n 0, 1) := by decide +kernel
theorem dX4_lendOut_27 : decode cX4_lendOut 27 = .ok (.iload_n 1, 1) := by decide +kernel
theorem dX4_lendOut_28 : decode cX4_lendOut 28 = .ok (.aload_n 0, 1) := by decide +kernel
theorem dX4_lendOut_29 : decode cX4_lendOut 29 = .ok (.iload_n 2, 1) := by decide +kernel
theorem dX4_lendOut_30 : decode cX4_lendOut 30 = .ok (.invokevirtual 118, 3) := by decide +kernel
theorem dX4_lendOut_33 : decode cX4_lendOut 33 = .ok (.invokevirtual 121, 3) := by decide +kernel
theorem dX4_lendOut_36 : decode cX4_lendOut 36 = .ok (.invokevirtual 124, 3) := by decide +kernel
theorem dX4_lendOut_39 : decode cX4_lendOut 39 = .ok (.aload_n 0, 1) := by decide +kernel
theorem dX4_lendOut_40 : decode cX4_lendOut 40 = .ok (.getfield 10, 3) := by decide +kernel
theorem dX4_lendOut_43 : decode cX4_lendOut 43 = .ok (.getfield 98, 3) := by decide +kernel
theorem dX4_lendOut_46 : decode cX4_lendOut 46 = .ok (.aload_n 0, 1) := by decide +kernel
theorem dX4_lendOut_47 : decode cX4_lendOut 47 = .ok (.iconst 0, 1) := by decide +kernel
theorem dX4_lendOut_48 : decode cX4_lendOut 48 = .ok (.invokevirtual 82, 3) := by decide +kernel
theorem dX4_lendOut_51 : decode cX4_lendOut 51 = .ok (.iadd, 1) := by decide +kernel
theorem dX4_lendOut_52 : decode cX4_lendOut 52 = .ok (.istore 4, 2) := by decide +kernel
theorem dX4_lendOut_54 : decode cX4_lendOut 54 = .ok (.aload_n 0, 1) := by decide +kernel
theorem dX4_lendOut_55 : decode cX4_lendOut 55 = .ok (.iload_n 2, 1) := by decide +kernel
theorem dX4_lendOut_56 : decode cX4_lendOut 56 = .ok (.iconst 1, 1) := by decide +kernel
theorem dX4_lendOut_57 : decode cX4_lendOut 57 = .ok (.iload_n 1, 1) := by decide +kernel
theorem dX4_lendOut_58 : decode cX4_lendOut 58 = .ok (.iload 4, 2) := by decide +kernel
theorem dX4_lendOut_60 : decode cX4_lendOut 60 = .ok (.invokevirtual 114, 3) := by decide +kernel
theorem dX4_lendOut_63 : decode cX4_lendOut 63 = .ok (.aload_n 0, 1) := by decide +kernel
theorem dX4_lendOut_64 : decode cX4_lendOut 64 = .ok (.iload_n 2, 1) := by decide +kernel
theorem dX4_lendOut_65 : decode cX4_lendOut 65 = .ok (.aload_n 0, 1) := by decide +kernel
theorem dX4_lendOut_66 : decode cX4_lendOut 66 = .ok (.getfield 10, 3) := by decide +kernel
theorem dX4_lendOut_69 : decode cX4_lendOut 69 = .ok (.getfield 98, 3) := by decide +kernel
theorem dX4_lendOut_72 : decode cX4_lendOut 72 = .ok (.iconst 0, 1) := by decide +kernel
theorem dX4_lendOut_73 : decode cX4_lendOut 73 = .ok (.iconst 0, 1) := by decide +kernel
theorem dX4_lendOut_74 : decode cX4_lendOut 74 = .ok (.invokevirtual 140, 3) := by decide +kernel
theorem dX4_lendOut_77 : decode cX4_lendOut 77 = .ok (.iload 4, 2) := by decide +kernel
theorem dX4_lendOut_79 : decode cX4_lendOut 79 = .ok (.ireturn, 1) := by decide +kernel
theorem dX4_reasonAgainstLending_0 : decode cX4_reasonAgainstLending 0 = .ok (.aload_n 0, 1) := by decide +kernel
theorem dX4_reasonAgainstLending_1 : decode cX4_reasonAgainstLending 1 = .ok (.iload_n 1, 1) := by decide +kernel
theorem dX4_reasonAgainstLending_2 : decode cX4_reasonAgainstLending 2 = .ok (.invokevirtual 143, 3) := by decide +kernel
theorem dX4_reasonAgainstLending_5 : decode cX4_reasonAgainstLending 5 = .ok (.ifCond .eq 11, 3) := by decide +kernel
theorem dX4_reasonAgainstLending_8 : decode cX4_reasonAgainstLending 8 = .ok (.aload_n 0, 1) := by decide +kernel
theorem dX4_reasonAgainstLending_9 : decode cX4_reasonAgainstLending 9 = .ok (.iload_n 2, 1) := by decide +kernel
theorem dX4_reasonAgainstLending_10 : decode cX4_reasonAgainstLending 10 = .ok (.invokevirtual 85, 3) := by decide +kernel
theorem dX4_reasonAgainstLending_13 : decode cX4_reasonAgainstLending 13 = .ok (.ifCond .ne 5, 3) := by decide +kernel
theorem dX4_reasonAgainstLending_16 : decode cX4_reasonAgainstLending 16 = .ok (.iconst (-1), 1) := by decide +kernel
theorem dX4_reasonAgainstLending_17 : decode cX4_reasonAgainstLending 17 = .ok (.ireturn, 1) := by decide +kernel
theorem dX4_reasonAgainstLending_18 : decode cX4_reasonAgainstLending 18 = .ok (.aload_n 0, 1) := by decide +kernel
theorem dX4_reasonAgainstLending_19 : decode cX4_reasonAgainstLending 19 = .ok (.iload_n 1, 1) := by decide +kernel
theorem dX4_reasonAgainstLending_20 : decode cX4_reasonAgainstLending 20 = .ok (.invokevirtual 146, 3) := by decide +kernel
theorem dX4_reasonAgainstLending_23 : decode cX4_reasonAgainstLending 23 = .ok (.ifCond .eq 5, 3) := by decide +kernel
theorem dX4_reasonAgainstLending_26 : decode cX4_reasonAgainstLending 26 = .ok (.iconst 1, 1) := by decide +kernel
theorem dX4_reasonAgainstLending_27 : decode cX4_reasonAgainstLending 27 = .ok (.ireturn, 1) := by decide +kernel
theorem dX4_reasonAgainstLending_28 : decode cX4_reasonAgainstLending 28 = .ok (.aload_n 0, 1) := by decide +kernel
theorem dX4_reasonAgainstLending_29 : decode cX4_reasonAgainstLending 29 = .ok (.iload_n 1, 1) := by decide +kernel
theorem dX4_reasonAgainstLending_30 : decode cX4_reasonAgainstLending 30 = .ok (.invokevirtual 149, 3) := by decide +kernel
theorem dX4_reasonAgainstLending_33 : decode cX4_reasonAgainstLending 33 = .ok (.aload_n 0, 1) := by decide +kernel
theorem dX4_reasonAgainstLending_34 : decode cX4_reasonAgainstLending 34 = .ok (.iconst 1, 1) := by decide +kernel
theorem dX4_reasonAgainstLending_35 : decode cX4_reasonAgainstLending 35 = .ok (.invokevirtual 82, 3) := by decide +kernel
theorem dX4_reasonAgainstLending_38 : decode cX4_reasonAgainstLending 38 = .ok (.if_icmp .lt 5, 3) := by decide +kernel
theorem dX4_reasonAgainstLending_41 : decode cX4_reasonAgainstLending 41 = .ok (.iconst 2, 1) := by decide +kernel
theorem dX4_reasonAgainstLending_42 : decode cX4_reasonAgainstLending 42 = .ok (.ireturn, 1) := by decide +kernel
theorem dX4_reasonAgainstLending_43 : decode cX4_reasonAgainstLending 43 = .ok (.aload_n 0, 1) := by decide +kernel
theorem dX4_reasonAgainstLending_44 : decode cX4_reasonAgainstLending 44 = .ok (.iload_n 1, 1) := by decide +kernel
theorem dX4_reasonAgainstLending_45 : decode cX4_reasonAgainstLending 45 = .ok (.iload_n 2, 1) := by decide +kernel
theorem dX4_reasonAgainstLending_46 : decode cX4_reasonAgainstLending 46 = .ok (.invokevirtual 152, 3) := by decide +kernel
theorem dX4_reasonAgainstLending_49 : decode cX4_reasonAgainstLending 49 = .ok (.ifCond .eq 7, 3) := by decide +kernel
theorem dX4_reasonAgainstLending_52 : decode cX4_reasonAgainstLending 52 = .ok (.iconst 0, 1) := by decide +kernel
theorem dX4_reasonAgainstLending_53 : decode cX4_reasonAgainstLending 53 = .ok (.goto 4, 3) := by decide +kernel
theorem dX4_reasonAgainstLending_56 : decode cX4_reasonAgainstLending 56 = .ok (.iconst 3, 1) := by decide +kernel
theorem dX4_reasonAgainstLending_57 : decode cX4_reasonAgainstLending 57 = .ok (.ireturn, 1) := by decide +kernel
theorem dX4_canBeTakenBy_0 : decode cX4_canBeTakenBy 0 = .ok (.aload_n 0, 1) := by decide +kernel
theorem dX4_canBeTakenBy_1 : decode cX4_canBeTakenBy 1 = .ok (.iload_n 2, 1) := by decide +kernel
theorem dX4_canBeTakenBy_2 : decode cX4_canBeTakenBy 2 = .ok (.invokevirtual 95, 3) := by decide +kernel
theorem dX4_canBeTakenBy_5 : decode cX4_canBeTakenBy 5 = .ok (.istore_n 3, 1) := by decide +kernel
theorem dX4_canBeTakenBy_6 : decode cX4_canBeTakenBy 6 = .ok (.iload_n 3, 1) := by decide +kernel
theorem dX4_canBeTakenBy_7 : decode cX4_canBeTakenBy 7 = .ok (.ifCond .eq 24, 3) := by decide +kernel
theorem dX4_canBeTakenBy_10 : decode cX4_canBeTakenBy 10 = .ok (.iload_n 3, 1) := by decide +kernel
theorem dX4_canBeTakenBy_11 : decode cX4_canBeTakenBy 11 = .ok (.iconst 3, 1) := by decide +kernel
theorem dX4_canBeTakenBy_12 : decode cX4_canBeTakenBy 12 = .ok (.if_icmp .ne 23, 3) := by decide +kernel
theorem dX4_canBeTakenBy_15 : decode cX4_canBeTakenBy 15 = .ok (.aload_n 0, 1) := by decide +kernel
theorem dX4_canBeTakenBy_16 : decode cX4_canBeTakenBy 16 = .ok (.getfield 10, 3) := by decide +kernel
theorem dX4_canBeTakenBy_19 : decode cX4_canBeTakenBy 19 = .ok (.getfield 47, 3) := by decide +kernel
theorem dX4_canBeTakenBy_22 : decode cX4_canBeTakenBy 22 = .ok (.iload_n 2, 1) := by decide +kernel
theorem dX4_canBeTakenBy_23 : decode cX4_canBeTakenBy 23 = .ok (.iconst 5, 1) := by decide +kernel
theorem dX4_canBeTakenBy_24 : decode cX4_canBeTakenBy 24 = .ok (.invokevirtual 88, 3) := by decide +kernel
theorem dX4_canBeTakenBy_27 : decode cX4_canBeTakenBy 27 = .ok (.iload_n 1, 1) := by decide +kernel
theorem dX4_canBeTakenBy_28 : decode cX4_canBeTakenBy 28 = .ok (.if_icmp .ne 7, 3) := by decide +kernel
theorem dX4_canBeTakenBy_31 : decode cX4_canBeTakenBy 31 = .ok (.iconst 1, 1) := by decide +kernel
theorem dX4_canBeTakenBy_32 : decode cX4_canBeTakenBy 32 = .ok (.goto 4, 3) := by decide +kernel
theorem dX4_canBeTakenBy_35 : decode cX4_canBeTakenBy 35 = .ok (.iconst 0, 1) := by decide +kernel
theorem dX4_canBeTakenBy_36 : decode cX4_canBeTakenBy 36 = .ok (.ireturn, 1) := by decide +kernel
theorem dX4_bringBack_0 : decode cX4_bringBack 0 = .ok (.aload_n 0, 1) := by decide +kernel
theorem dX4_bringBack_1 : decode cX4_bringBack 1 = .ok (.aload_n 0, 1) := by decide +kernel
theorem dX4_bringBack_2 : decode cX4_bringBack 2 = .ok (.iload_n 1, 1) := by decide +kernel
theorem dX4_bringBack_3 : decode cX4_bringBack 3 = .ok (.iload_n 2, 1) := by decide +kernel
theorem dX4_bringBack_4 : decode cX4_bringBack 4 = .ok (.invokevirtual 155, 3) := by decide +kernel
theorem dX4_bringBack_7 : decode cX4_bringBack 7 = .ok (.invokevirtual 65, 3) := by decide +kernel
theorem dX4_bringBack_10 : decode cX4_bringBack 10 = .ok (.ireturn, 1) := by decide +kernel
theorem dX4_takeBack_0 : decode cX4_takeBack 0 = .ok (.aload_n 0, 1) := by decide +kernel
theorem dX4_takeBack_1 : decode cX4_takeBack 1 = .ok (.iload_n 1, 1) := by decide +kernel
theorem dX4_takeBack_2 : decode cX4_takeBack 2 = .ok (.invokevirtual 85, 3) := by decide +kernel
theorem dX4_takeBack_5 : decode cX4_takeBack 5 = .ok (.ifCond .eq 10, 3) := by decide +kernel
theorem dX4_takeBack_8 : decode cX4_takeBack 8 = .ok (.iload_n 2, 1) := by decide +kernel
theorem dX4_takeBack_9 : decode cX4_takeBack 9 = .ok (.invokestatic 44, 3) := by decide +kernel
theorem dX4_takeBack_12 : decode cX4_takeBack 12 = .ok (.ifCond .ne 5, 3) := by decide +kernel
theorem dX4_takeBack_15 : decode cX4_takeBack 15 = .ok (.iconst (-1), 1) := by decide +kernel
theorem dX4_takeBack_16 : decode cX4_takeBack 16 = .ok (.ireturn, 1) := by decide +kernel
theorem dX4_takeBack_17 : decode cX4_takeBack 17 = .ok (.aload_n 0, 1) := by decide +kernel
theorem dX4_takeBack_18 : decode cX4_takeBack 18 = .ok (.iload_n 1, 1) := by decide +kernel
theorem dX4_takeBack_19 : decode cX4_takeBack 19 = .ok (.invokevirtual 158, 3) := by decide +kernel
theorem dX4_takeBack_22 : decode cX4_takeBack 22 = .ok (.ifCond .ne 6, 3) := by decide +kernel
theorem dX4_takeBack_25 : decode cX4_takeBack 25 = .ok (.bipush (-2), 2) := by decide +kernel
theorem dX4_takeBack_27 : decode cX4_takeBack 27 = .ok (.ireturn, 1) := by decide +kernel
theorem dX4_takeBack_28 : decode cX4_takeBack 28 = .ok (.aload_n 0, 1) := by decide +kernel
theorem dX4_takeBack_29 : decode cX4_takeBack 29 = .ok (.getfield 10, 3) := by decide +kernel
theorem dX4_takeBack_32 : decode cX4_takeBack 32 = .ok (.getfield 47, 3) := by decide +kernel
theorem dX4_takeBack_35 : decode cX4_takeBack 35 = .ok (.iload_n 1, 1) := by decide +kernel
theorem dX4_takeBack_36 : decode cX4_takeBack 36 = .ok (.iconst 4, 1) := by decide +kernel
theorem dX4_takeBack_37 : decode cX4_takeBack 37 = .ok (.invokevirtual 88, 3) := by decide +kernel
theorem dX4_takeBack_40 : decode cX4_takeBack 40 = .ok (.istore_n 3, 1) := by decide +kernel
theorem dX4_takeBack_41 : decode cX4_takeBack 41 = .ok (.aload_n 0, 1) := by decide +kernel
theorem dX4_takeBack_42 : decode cX4_takeBack 42 = .ok (.iload_n 1, 1) := by decide +kernel
theorem dX4_takeBack_43 : decode cX4_takeBack 43 = .ok (.invokevirtual 95, 3) := by decide +kernel
theorem dX4_takeBack_46 : decode cX4_takeBack 46 = .ok (.istore 4, 2) := by decide +kernel
theorem dX4_takeBack_48 : decode cX4_takeBack 48 = .ok (.iload 4, 2) := by decide +kernel
theorem dX4_takeBack_50 : decode cX4_takeBack 50 = .ok (.iconst 4, 1) := by decide +kernel
theorem dX4_takeBack_51 : decode cX4_takeBack 51 = .ok (.if_icmp .ne 32, 3) := by decide +kernel
theorem dX4_takeBack_54 : decode cX4_takeBack 54 = .ok (.aload_n 0, 1) := by decide +kernel
theorem dX4_takeBack_55 : decode cX4_takeBack 55 = .ok (.getfield 10, 3) := by decide +kernel
theorem dX4_takeBack_58 : decode cX4_takeBack 58 = .ok (.getfield 69, 3) := by decide +kernel
theorem dX4_takeBack_61 : decode cX4_takeBack 61 = .ok (.iload_n 3, 1) := by decide +kernel
theorem dX4_takeBack_62 : decode cX4_takeBack 62 = .ok (.iconst 1, 1) := by decide +kernel
theorem dX4_takeBack_63 : decode cX4_takeBack 63 = .ok (.aload_n 0, 1) := by decide +kernel
theorem dX4_takeBack_64 : decode cX4_takeBack 64 = .ok (.getfield 10, 3) := by decide +kernel
theorem dX4_takeBack_67 : decode cX4_takeBack 67 = .ok (.getfield 69, 3) := by decide +kernel
theorem dX4_takeBack_70 : decode cX4_takeBack 70 = .ok (.iload_n 3, 1) := by decide +kernel
theorem dX4_takeBack_71 : decode cX4_takeBack 71 = .ok (.iconst 1, 1) := by decide +kernel
theorem dX4_takeBack_72 : decode cX4_takeBack 72 = .ok (.invokevirtual 88, 3) := by decide +kernel
theorem dX4_takeBack_75 : decode cX4_takeBack 75 = .ok (.iconst 1, 1) := by decide +kernel
theorem dX4_takeBack_76 : decode cX4_takeBack 76 = .ok (.isub, 1) := by decide +kernel
theorem dX4_takeBack_77 : decode cX4_takeBack 77 = .ok (.invokevirtual 57, 3) := by decide +kernel
theorem dX4_takeBack_80 : decode cX4_takeBack 80 = .ok (.goto 46, 3) := by decide +kernel
theorem dX4_takeBack_83 : decode cX4_takeBack 83 = .ok (.aload_n 0, 1) := by decide +kernel
theorem dX4_takeBack_84 : decode cX4_takeBack 84 = .ok (.iload_n 1, 1) := by decide +kernel
theorem dX4_takeBack_85 : decode cX4_takeBack 85 = .ok (.invokevirtual 161, 3) := by decide +kernel
theorem dX4_takeBack_88 : decode cX4_takeBack 88 = .ok (.istore 5, 2) := by decide +kernel
theorem dX4_takeBack_90 : decode cX4_takeBack 90 = .ok (.iload 4, 2) := by decide +kernel
theorem dX4_takeBack_92 : decode cX4_takeBack 92 = .ok (.iconst 5, 1) := by decide +kernel
theorem dX4_takeBack_93 : decode cX4_takeBack 93 = .ok (.if_icmp .ne 24, 3) := by decide +kernel
theorem dX4_takeBack_96 : decode cX4_takeBack 96 = .ok (.aload_n 0, 1) := by decide +kernel
theorem dX4_takeBack_97 : decode cX4_takeBack 97 = .ok (.iconst 2, 1) := by decide +kernel
theorem dX4_takeBack_98 : decode cX4_takeBack 98 = .ok (.iload_n 3, 1) := by decide +kernel
theorem dX4_takeBack_99 : decode cX4_takeBack 99 = .ok (.aload_n 0, 1) := by decide +kernel
theorem dX4_takeBack_100 : decode cX4_takeBack 100 = .ok (.getfield 10, 3) := by decide +kernel
theorem dX4_takeBack_103 : decode cX4_takeBack 103 = .ok (.getfield 47, 3) := by decide +kernel
theorem dX4_takeBack_106 : decode cX4_takeBack 106 = .ok (.iload_n 1, 1) := by decide +kernel
theorem dX4_takeBack_107 : decode cX4_takeBack 107 = .ok (.bipush 11, 2) := by decide +kernel
theorem dX4_takeBack_109 : decode cX4_takeBack 109 = .ok (.invokevirtual 88, 3) := by decide +kernel
theorem dX4_takeBack_112 : decode cX4_takeBack 112 = .ok (.ineg, 1) := by decide +kernel
theorem dX4_takeBack_113 : decode cX4_takeBack 113 = .ok (.iload_n 1, 1) := by decide +kernel
theorem dX4_takeBack_114 : decode cX4_takeBack 114 = .ok (.invokevirtual 164, 3) := by decide +kernel
theorem dX4_takeBack_117 : decode cX4_takeBack 117 = .ok (.aload_n 0, 1) := by decide +kernel
theorem dX4_takeBack_118 : decode cX4_takeBack 118 = .ok (.iconst 0, 1) := by decide +kernel
theorem dX4_takeBack_119 : decode cX4_takeBack 119 = .ok (.iload_n 3, 1) := by decide +kernel
theorem dX4_takeBack_120 : decode cX4_takeBack 120 = .ok (.iload 5, 2) := by decide +kernel
theorem dX4_takeBack_122 : decode cX4_takeBack 122 = .ok (.iload_n 1, 1) := by decide +kernel
theorem dX4_takeBack_123 : decode cX4_takeBack 123 = .ok (.invokevirtual 164, 3) := by decide +kernel
theorem dX4_takeBack_126 : decode cX4_takeBack 126 = .ok (.aload_n 0, 1) := by decide +kernel
theorem dX4_takeBack_127 : decode cX4_takeBack 127 = .ok (.iload_n 1, 1) := by decide +kernel
theorem dX4_takeBack_128 : decode cX4_takeBack 128 = .ok (.iload_n 2, 1) := by decide +kernel
theorem dX4_takeBack_129 : decode cX4_takeBack 129 = .ok (.invokevirtual 61, 3) := by decide +kernel
theorem dX4_takeBack_132 : decode cX4_takeBack 132 = .ok (.aload_n 0, 1) := by decide +kernel
theorem dX4_takeBack_133 : decode cX4_takeBack 133 = .ok (.iload_n 1, 1) := by decide +kernel
theorem dX4_takeBack_134 : decode cX4_takeBack 134 = .ok (.invokevirtual 95, 3) := by decide +kernel
theorem dX4_takeBack_137 : decode cX4_takeBack 137 = .ok (.ireturn, 1) := by decide +kernel
theorem dX4_renew_0 : decode cX4_renew 0 = .ok (.aload_n 0, 1) := by decide +kernel
theorem dX4_renew_1 : decode cX4_renew 1 = .ok (.aload_n 0, 1) := by decide +kernel
theorem dX4_renew_2 : decode cX4_renew 2 = .ok (.iload_n 1, 1) := by decide +kernel
theorem dX4_renew_3 : decode cX4_renew 3 = .ok (.invokevirtual 167, 3) := by decide +kernel
theorem dX4_renew_6 : decode cX4_renew 6 = .ok (.invokevirtual 65, 3) := by decide +kernel
theorem dX4_renew_9 : decode cX4_renew 9 = .ok (.ireturn, 1) := by decide +kernel
theorem dX4_renewLoan_0 : decode cX4_renewLoan 0 = .ok (.aload_n 0, 1) := by decide +kernel
theorem dX4_renewLoan_1 : decode cX4_renewLoan 1 = .ok (.iload_n 1, 1) := by decide +kernel
theorem dX4_renewLoan_2 : decode cX4_renewLoan 2 = .ok (.invokevirtual 170, 3) := by decide +kernel
theorem dX4_renewLoan_5 : decode cX4_renewLoan 5 = .ok (.istore_n 2, 1) := by decide +kernel
theorem dX4_renewLoan_6 : decode cX4_renewLoan 6 = .ok (.iload_n 2, 1) := by decide +kernel
theorem dX4_renewLoan_7 : decode cX4_renewLoan 7 = .ok (.ifCond .eq 8, 3) := by decide +kernel
theorem dX4_renewLoan_10 : decode cX4_renewLoan 10 = .ok (.iload_n 2, 1) := by decide +kernel
theorem dX4_renewLoan_11 : decode cX4_renewLoan 11 = .ok (.invokestatic 137, 3) := by decide +kernel
theorem dX4_renewLoan_14 : decode cX4_renewLoan 14 = .ok (.ireturn, 1) := by decide +kernel
theorem dX4_renewLoan_15 : decode cX4_renewLoan 15 = .ok (.aload_n 0, 1) := by decide +kernel
theorem dX4_renewLoan_16 : decode cX4_renewLoan 16 = .ok (.getfield 10, 3) := by decide +kernel
theorem dX4_renewLoan_19 : decode cX4_renewLoan 19 = .ok (.getfield 98, 3) := by decide +kernel
theorem dX4_renewLoan_22 : decode cX4_renewLoan 22 = .ok (.aload_n 0, 1) := by decide +kernel
theorem dX4_renewLoan_23 : decode cX4_renewLoan 23 = .ok (.iconst 0, 1) := by decide +kernel
theorem dX4_renewLoan_24 : decode cX4_renewLoan 24 = .ok (.invokevirtual 82, 3) := by decide +kernel
theorem dX4_renewLoan_27 : decode cX4_renewLoan 27 = .ok (.iadd, 1) := by decide +kernel
theorem dX4_renewLoan_28 : decode cX4_renewLoan 28 = .ok (.istore_n 3, 1) := by decide +kernel
theorem dX4_renewLoan_29 : decode cX4_renewLoan 29 = .ok (.aload_n 0, 1) := by decide +kernel
theorem dX4_renewLoan_30 : decode cX4_renewLoan 30 = .ok (.getfield 10, 3) := by decide +kernel
theorem dX4_renewLoan_33 : decode cX4_renewLoan 33 = .ok (.getfield 47, 3) := by decide +kernel
theorem dX4_renewLoan_36 : decode cX4_renewLoan 36 = .ok (.iload_n 1, 1) := by decide +kernel
theorem dX4_renewLoan_37 : decode cX4_renewLoan 37 = .ok (.bipush 6, 2) := by decide +kernel
theorem dX4_renewLoan_39 : decode cX4_renewLoan 39 = .ok (.iload_n 3, 1) := by decide +kernel
theorem dX4_renewLoan_40 : decode cX4_renewLoan 40 = .ok (.invokevirtual 57, 3) := by decide +kernel
theorem dX4_renewLoan_43 : decode cX4_renewLoan 43 = .ok (.aload_n 0, 1) := by decide +kernel
theorem dX4_renewLoan_44 : decode cX4_renewLoan 44 = .ok (.getfield 10, 3) := by decide +kernel
theorem dX4_renewLoan_47 : decode cX4_renewLoan 47 = .ok (.getfield 47, 3) := by decide +kernel
theorem dX4_renewLoan_50 : decode cX4_renewLoan 50 = .ok (.iload_n 1, 1) := by decide +kernel
theorem dX4_renewLoan_51 : decode cX4_renewLoan 51 = .ok (.bipush 8, 2) := by decide +kernel
theorem dX4_renewLoan_53 : decode cX4_renewLoan 53 = .ok (.aload_n 0, 1) := by decide +kernel
theorem dX4_renewLoan_54 : decode cX4_renewLoan 54 = .ok (.getfield 10, 3) := by decide +kernel
theorem dX4_renewLoan_57 : decode cX4_renewLoan 57 = .ok (.getfield 47, 3) := by decide +kernel
theorem dX4_renewLoan_60 : decode cX4_renewLoan 60 = .ok (.iload_n 1, 1) := by decide +kernel
theorem dX4_renewLoan_61 : decode cX4_renewLoan 61 = .ok (.bipush 8, 2) := by decide +kernel
theorem dX4_renewLoan_63 : decode cX4_renewLoan 63 = .ok (.invokevirtual 88, 3) := by decide +kernel
theorem dX4_renewLoan_66 : decode cX4_renewLoan 66 = .ok (.iconst 1, 1) := by decide +kernel
theorem dX4_renewLoan_67 : decode cX4_renewLoan 67 = .ok (.iadd, 1) := by decide +kernel
theorem dX4_renewLoan_68 : decode cX4_renewLoan 68 = .ok (.invokevirtual 57, 3) := by decide +kernel
theorem dX4_renewLoan_71 : decode cX4_renewLoan 71 = .ok (.iload_n 3, 1) := by decide +kernel
theorem dX4_renewLoan_72 : decode cX4_renewLoan 72 = .ok (.ireturn, 1) := by decide +kernel
theorem dX4_reasonAgainstRenewing_0 : decode cX4_reasonAgainstRenewing 0 = .ok (.aload_n 0, 1) := by decide +kernel
theorem dX4_reasonAgainstRenewing_1 : decode cX4_reasonAgainstRenewing 1 = .ok (.iload_n 1, 1) := by decide +kernel
theorem dX4_reasonAgainstRenewing_2 : decode cX4_reasonAgainstRenewing 2 = .ok (.invokevirtual 85, 3) := by decide +kernel
theorem dX4_reasonAgainstRenewing_5 : decode cX4_reasonAgainstRenewing 5 = .ok (.ifCond .ne 5, 3) := by decide +kernel
theorem dX4_reasonAgainstRenewing_8 : decode cX4_reasonAgainstRenewing 8 = .ok (.iconst (-1), 1) := by decide +kernel
theorem dX4_reasonAgainstRenewing_9 : decode cX4_reasonAgainstRenewing 9 = .ok (.ireturn, 1) := by decide +kernel
theorem dX4_reasonAgainstRenewing_10 : decode cX4_reasonAgainstRenewing 10 = .ok (.aload_n 0, 1) := by decide +kernel
theorem dX4_reasonAgainstRenewing_11 : decode cX4_reasonAgainstRenewing 11 = .ok (.iload_n 1, 1) := by decide +kernel
theorem dX4_reasonAgainstRenewing_12 : decode cX4_reasonAgainstRenewing 12 = .ok (.invokevirtual 95, 3) := by decide +kernel
theorem dX4_reasonAgainstRenewing_15 : decode cX4_reasonAgainstRenewing 15 = .ok (.iconst 1, 1) := by decide +kernel
theorem dX4_reasonAgainstRenewing_16 : decode cX4_reasonAgainstRenewing 16 = .ok (.if_icmp .eq 5, 3) := by decide +kernel
theorem dX4_reasonAgainstRenewing_19 : decode cX4_reasonAgainstRenewing 19 = .ok (.iconst 1, 1) := by decide +kernel
theorem dX4_reasonAgainstRenewing_20 : decode cX4_reasonAgainstRenewing 20 = .ok (.ireturn, 1) := by decide +kernel
theorem dX4_reasonAgainstRenewing_21 : decode cX4_reasonAgainstRenewing 21 = .ok (.aload_n 0, 1) := by decide +kernel
theorem dX4_reasonAgainstRenewing_22 : decode cX4_reasonAgainstRenewing 22 = .ok (.getfield 10, 3) := by decide +kernel
theorem dX4_reasonAgainstRenewing_25 : decode cX4_reasonAgainstRenewing 25 = .ok (.getfield 47, 3) := by decide +kernel
theorem dX4_reasonAgainstRenewing_28 : decode cX4_reasonAgainstRenewing 28 = .ok (.iload_n 1, 1) := by decide +kernel
theorem dX4_reasonAgainstRenewing_29 : decode cX4_reasonAgainstRenewing 29 = .ok (.bipush 8, 2) := by decide +kernel
theorem dX4_reasonAgainstRenewing_31 : decode cX4_reasonAgainstRenewing 31 = .ok (.invokevirtual 88, 3) := by decide +kernel
theorem dX4_reasonAgainstRenewing_34 : decode cX4_reasonAgainstRenewing 34 = .ok (.iconst 2, 1) := by decide +kernel
theorem dX4_reasonAgainstRenewing_35 : decode cX4_reasonAgainstRenewing 35 = .ok (.if_icmp .lt 5, 3) := by decide +kernel
theorem dX4_reasonAgainstRenewing_38 : decode cX4_reasonAgainstRenewing 38 = .ok (.iconst 2, 1) := by decide +kernel
theorem dX4_reasonAgainstRenewing_39 : decode cX4_reasonAgainstRenewing 39 = .ok (.ireturn, 1) := by decide +kernel
theorem dX4_reasonAgainstRenewing_40 : decode cX4_reasonAgainstRenewing 40 = .ok (.aload_n 0, 1) := by decide +kernel
theorem dX4_reasonAgainstRenewing_41 : decode cX4_reasonAgainstRenewing 41 = .ok (.getfield 10, 3) := by decide +kernel
theorem dX4_reasonAgainstRenewing_44 : decode cX4_reasonAgainstRenewing 44 = .ok (.getfield 47, 3) := by decide +kernel
theorem dX4_reasonAgainstRenewing_47 : decode cX4_reasonAgainstRenewing 47 = .ok (.iload_n 1, 1) := by decide +kernel
theorem dX4_reasonAgainstRenewing_48 : decode cX4_reasonAgainstRenewing 48 = .ok (.bipush 9, 2) := by decide +kernel
theorem dX4_reasonAgainstRenewing_50 : decode cX4_reasonAgainstRenewing 50 = .ok (.invokevirtual 88, 3) := by decide +kernel
theorem dX4_reasonAgainstRenewing_53 : decode cX4_reasonAgainstRenewing 53 = .ok (.iconst 1, 1) := by decide +kernel
theorem dX4_reasonAgainstRenewing_54 : decode cX4_reasonAgainstRenewing 54 = .ok (.if_icmp .eq 17, 3) := by decide +kernel
theorem dX4_reasonAgainstRenewing_57 : decode cX4_reasonAgainstRenewing 57 = .ok (.aload_n 0, 1) := by decide +kernel
theorem dX4_reasonAgainstRenewing_58 : decode cX4_reasonAgainstRenewing 58 = .ok (.aload_n 0, 1) := by decide +kernel
theorem dX4_reasonAgainstRenewing_59 : decode cX4_reasonAgainstRenewing 59 = .ok (.iload_n 1, 1) := by decide +kernel
theorem dX4_reasonAgainstRenewing_60 : decode cX4_reasonAgainstRenewing 60 = .ok (.invokevirtual 118, 3) := by decide +kernel
theorem dX4_reasonAgainstRenewing_63 : decode cX4_reasonAgainstRenewing 63 = .ok (.invokevirtual 173, 3) := by decide +kernel
theorem dX4_reasonAgainstRenewing_66 : decode cX4_reasonAgainstRenewing 66 = .ok (.bipush (-2), 2) := by decide +kernel
theorem dX4_reasonAgainstRenewing_68 : decode cX4_reasonAgainstRenewing 68 = .ok (.if_icmp .eq 5, 3) := by decide +kernel
theorem dX4_reasonAgainstRenewing_71 : decode cX4_reasonAgainstRenewing 71 = .ok (.iconst 3, 1) := by decide +kernel
theorem dX4_reasonAgainstRenewing_72 : decode cX4_reasonAgainstRenewing 72 = .ok (.ireturn, 1) := by decide +kernel
theorem dX4_reasonAgainstRenewing_73 : decode cX4_reasonAgainstRenewing 73 = .ok (.aload_n 0, 1) := by decide +kernel
theorem dX4_reasonAgainstRenewing_74 : decode cX4_reasonAgainstRenewing 74 = .ok (.aload_n 0, 1) := by decide +kernel
theorem dX4_reasonAgainstRenewing_75 : decode cX4_reasonAgainstRenewing 75 = .ok (.getfield 10, 3) := by decide +kernel
theorem dX4_reasonAgainstRenewing_78 : decode cX4_reasonAgainstRenewing 78 = .ok (.getfield 47, 3) := by decide +kernel
theorem dX4_reasonAgainstRenewing_81 : decode cX4_reasonAgainstRenewing 81 = .ok (.iload_n 1, 1) := by decide +kernel
theorem dX4_reasonAgainstRenewing_82 : decode cX4_reasonAgainstRenewing 82 = .ok (.iconst 4, 1) := by decide +kernel
theorem dX4_reasonAgainstRenewing_83 : decode cX4_reasonAgainstRenewing 83 = .ok (.invokevirtual 88, 3) := by decide +kernel
theorem dX4_reasonAgainstRenewing_86 : decode cX4_reasonAgainstRenewing 86 = .ok (.invokevirtual 146, 3) := by decide +kernel
theorem dX4_reasonAgainstRenewing_89 : decode cX4_reasonAgainstRenewing 89 = .ok (.ifCond .eq 5, 3) := by decide +kernel
theorem dX4_reasonAgainstRenewing_92 : decode cX4_reasonAgainstRenewing 92 = .ok (.iconst 4, 1) := by decide +kernel
theorem dX4_reasonAgainstRenewing_93 : decode cX4_reasonAgainstRenewing 93 = .ok (.ireturn, 1) := by decide +kernel
theorem dX4_reasonAgainstRenewing_94 : decode cX4_reasonAgainstRenewing 94 = .ok (.aload_n 0, 1) := by decide +kernel
theorem dX4_reasonAgainstRenewing_95 : decode cX4_reasonAgainstRenewing 95 = .ok (.getfield 10, 3) := by decide +kernel
theorem dX4_reasonAgainstRenewing_98 : decode cX4_reasonAgainstRenewing 98 = .ok (.getfield 98, 3) := by decide +kernel
theorem dX4_reasonAgainstRenewing_101 : decode cX4_reasonAgainstRenewing 101 = .ok (.aload_n 0, 1) := by decide +kernel
theorem dX4_reasonAgainstRenewing_102 : decode cX4_reasonAgainstRenewing 102 = .ok (.iconst 0, 1) := by decide +kernel
theorem dX4_reasonAgainstRenewing_103 : decode cX4_reasonAgainstRenewing 103 = .ok (.invokevirtual 82, 3) := by decide +kernel
theorem dX4_reasonAgainstRenewing_106 : decode cX4_reasonAgainstRenewing 106 = .ok (.iadd, 1) := by decide +kernel
theorem dX4_reasonAgainstRenewing_107 : decode cX4_reasonAgainstRenewing 107 = .ok (.aload_n 0, 1) := by decide +kernel
theorem dX4_reasonAgainstRenewing_108 : decode cX4_reasonAgainstRenewing 108 = .ok (.getfield 10, 3) := by decide +kernel
theorem dX4_reasonAgainstRenewing_111 : decode cX4_reasonAgainstRenewing 111 = .ok (.getfield 47, 3) := by decide +kernel
theorem dX4_reasonAgainstRenewing_114 : decode cX4_reasonAgainstRenewing 114 = .ok (.iload_n 1, 1) := by decide +kernel
theorem dX4_reasonAgainstRenewing_115 : decode cX4_reasonAgainstRenewing 115 = .ok (.bipush 6, 2) := by decide +kernel
theorem dX4_reasonAgainstRenewing_117 : decode cX4_reasonAgainstRenewing 117 = .ok (.invokevirtual 88, 3) := by decide +kernel
theorem dX4_reasonAgainstRenewing_120 : decode cX4_reasonAgainstRenewing 120 = .ok (.if_icmp .le 7, 3) := by decide +kernel
theorem dX4_reasonAgainstRenewing_123 : decode cX4_reasonAgainstRenewing 123 = .ok (.iconst 0, 1) := by decide +kernel
theorem dX4_reasonAgainstRenewing_124 : decode cX4_reasonAgainstRenewing 124 = .ok (.goto 4, 3) := by decide +kernel
theorem dX4_reasonAgainstRenewing_127 : decode cX4_reasonAgainstRenewing 127 = .ok (.iconst 5, 1) := by decide +kernel
theorem dX4_reasonAgainstRenewing_128 : decode cX4_reasonAgainstRenewing 128 = .ok (.ireturn, 1) := by decide +kernel
theorem dX4_claim_0 : decode cX4_claim 0 = .ok (.aload_n 0, 1) := by decide +kernel
theorem dX4_claim_1 : decode cX4_claim 1 = .ok (.iload_n 1, 1) := by decide +kernel
theorem dX4_claim_2 : decode cX4_claim 2 = .ok (.invokevirtual 176, 3) := by decide +kernel
theorem dX4_claim_5 : decode cX4_claim 5 = .ok (.istore_n 2, 1) := by decide +kernel
theorem dX4_claim_6 : decode cX4_claim 6 = .ok (.iload_n 2, 1) := by decide +kernel
theorem dX4_claim_7 : decode cX4_claim 7 = .ok (.ifCond .eq 8, 3) := by decide +kernel
theorem dX4_claim_10 : decode cX4_claim 10 = .ok (.iload_n 2, 1) := by decide +kernel
theorem dX4_claim_11 : decode cX4_claim 11 = .ok (.invokestatic 137, 3) := by decide +kernel
theorem dX4_claim_14 : decode cX4_claim 14 = .ok (.ireturn, 1) := by decide +kernel
theorem dX4_claim_15 : decode cX4_claim 15 = .ok (.aload_n 0, 1) := by decide +kernel
theorem dX4_claim_16 : decode cX4_claim 16 = .ok (.getfield 10, 3) := by decide +kernel
theorem dX4_claim_19 : decode cX4_claim 19 = .ok (.getfield 47, 3) := by decide +kernel
theorem dX4_claim_22 : decode cX4_claim 22 = .ok (.iload_n 1, 1) := by decide +kernel
theorem dX4_claim_23 : decode cX4_claim 23 = .ok (.iconst 4, 1) := by decide +kernel
theorem dX4_claim_24 : decode cX4_claim 24 = .ok (.invokevirtual 88, 3) := by decide +kernel
theorem dX4_claim_27 : decode cX4_claim 27 = .ok (.istore_n 3, 1) := by decide +kernel
theorem dX4_claim_28 : decode cX4_claim 28 = .ok (.aload_n 0, 1) := by decide +kernel
theorem dX4_claim_29 : decode cX4_claim 29 = .ok (.iload_n 1, 1) := by decide +kernel
theorem dX4_claim_30 : decode cX4_claim 30 = .ok (.invokevirtual 161, 3) := by decide +kernel
theorem dX4_claim_33 : decode cX4_claim 33 = .ok (.istore 4, 2) := by decide +kernel
theorem dX4_claim_35 : decode cX4_claim 35 = .ok (.aload_n 0, 1) := by decide +kernel
theorem dX4_claim_36 : decode cX4_claim 36 = .ok (.getfield 10, 3) := by decide +kernel
theorem dX4_claim_39 : decode cX4_claim 39 = .ok (.getfield 47, 3) := by decide +kernel
theorem dX4_claim_42 : decode cX4_claim 42 = .ok (.iload_n 1, 1) := by decide +kernel
theorem dX4_claim_43 : decode cX4_claim 43 = .ok (.bipush 10, 2) := by decide +kernel
theorem dX4_claim_45 : decode cX4_claim 45 = .ok (.iload 4, 2) := by decide +kernel
theorem dX4_claim_47 : decode cX4_claim 47 = .ok (.invokevirtual 57, 3) := by decide +kernel
theorem dX4_claim_50 : decode cX4_claim 50 = .ok (.aload_n 0, 1) := by decide +kernel
theorem dX4_claim_51 : decode cX4_claim 51 = .ok (.getfield 10, 3) := by decide +kernel
theorem dX4_claim_54 : decode cX4_claim 54 = .ok (.getfield 69, 3) := by decide +kernel
theorem dX4_claim_57 : decode cX4_claim 57 = .ok (.iload_n 3, 1) := by decide +kernel
theorem dX4_claim_58 : decode cX4_claim 58 = .ok (.iconst 1, 1) := by decide +kernel
theorem dX4_claim_59 : decode cX4_claim 59 = .ok (.aload_n 0, 1) := by decide +kernel
theorem dX4_claim_60 : decode cX4_claim 60 = .ok (.getfield 10, 3) := by decide +kernel
theorem dX4_claim_63 : decode cX4_claim 63 = .ok (.getfield 69, 3) := by decide +kernel
theorem dX4_claim_66 : decode cX4_claim 66 = .ok (.iload_n 3, 1) := by decide +kernel
theorem dX4_claim_67 : decode cX4_claim 67 = .ok (.iconst 1, 1) := by decide +kernel
theorem dX4_claim_68 : decode cX4_claim 68 = .ok (.invokevirtual 88, 3) := by decide +kernel
theorem dX4_claim_71 : decode cX4_claim 71 = .ok (.iconst 1, 1) := by decide +kernel
theorem dX4_claim_72 : decode cX4_claim 72 = .ok (.iadd, 1) := by decide +kernel
theorem dX4_claim_73 : decode cX4_claim 73 = .ok (.invokevirtual 57, 3) := by decide +kernel
theorem dX4_claim_76 : decode cX4_claim 76 = .ok (.aload_n 0, 1) := by decide +kernel
theorem dX4_claim_77 : decode cX4_claim 77 = .ok (.iload_n 1, 1) := by decide +kernel
theorem dX4_claim_78 : decode cX4_claim 78 = .ok (.iconst 4, 1) := by decide +kernel
theorem dX4_claim_79 : decode cX4_claim 79 = .ok (.iload_n 3, 1) := by decide +kernel
theorem dX4_claim_80 : decode cX4_claim 80 = .ok (.aload_n 0, 1) := by decide +kernel
theorem dX4_claim_81 : decode cX4_claim 81 = .ok (.getfield 10, 3) := by decide +kernel
theorem dX4_claim_84 : decode cX4_claim 84 = .ok (.getfield 98, 3) := by decide +kernel
theorem dX4_claim_87 : decode cX4_claim 87 = .ok (.invokevirtual 114, 3) := by decide +kernel
theorem dX4_claim_90 : decode cX4_claim 90 = .ok (.aload_n 0, 1) := by decide +kernel
theorem dX4_claim_91 : decode cX4_claim 91 = .ok (.iload 4, 2) := by decide +kernel
theorem dX4_claim_93 : decode cX4_claim 93 = .ok (.invokevirtual 65, 3) := by decide +kernel
theorem dX4_claim_96 : decode cX4_claim 96 = .ok (.ireturn, 1) := by decide +kernel
theorem dX4_reasonAgainstClaiming_0 : decode cX4_reasonAgainstClaiming 0 = .ok (.aload_n 0, 1) := by decide +kernel
theorem dX4_reasonAgainstClaiming_1 : decode cX4_reasonAgainstClaiming 1 = .ok (.iload_n 1, 1) := by decide +kernel
theorem dX4_reasonAgainstClaiming_2 : decode cX4_reasonAgainstClaiming 2 = .ok (.invokevirtual 85, 3) := by decide +kernel
theorem dX4_reasonAgainstClaiming_5 : decode cX4_reasonAgainstClaiming 5 = .ok (.ifCond .ne 5, 3) := by decide +kernel
theorem dX4_reasonAgainstClaiming_8 : decode cX4_reasonAgainstClaiming 8 = .ok (.iconst (-1), 1) := by decide +kernel
theorem dX4_reasonAgainstClaiming_9 : decode cX4_reasonAgainstClaiming 9 = .ok (.ireturn, 1) := by decide +kernel
theorem dX4_reasonAgainstClaiming_10 : decode cX4_reasonAgainstClaiming 10 = .ok (.aload_n 0, 1) := by decide +kernel
theorem dX4_reasonAgainstClaiming_11 : decode cX4_reasonAgainstClaiming 11 = .ok (.iload_n 1, 1) := by decide +kernel
theorem dX4_reasonAgainstClaiming_12 : decode cX4_reasonAgainstClaiming 12 = .ok (.invokevirtual 95, 3) := by decide +kernel
theorem dX4_reasonAgainstClaiming_15 : decode cX4_reasonAgainstClaiming 15 = .ok (.iconst 1, 1) := by decide +kernel
theorem dX4_reasonAgainstClaiming_16 : decode cX4_reasonAgainstClaiming 16 = .ok (.if_icmp .eq 5, 3) := by decide +kernel
theorem dX4_reasonAgainstClaiming_19 : decode cX4_reasonAgainstClaiming 19 = .ok (.iconst 1, 1) := by decide +kernel
theorem dX4_reasonAgainstClaiming_20 : decode cX4_reasonAgainstClaiming 20 = .ok (.ireturn, 1) := by decide +kernel
theorem dX4_reasonAgainstClaiming_21 : decode cX4_reasonAgainstClaiming 21 = .ok (.aload_n 0, 1) := by decide +kernel
theorem dX4_reasonAgainstClaiming_22 : decode cX4_reasonAgainstClaiming 22 = .ok (.getfield 10, 3) := by decide +kernel
theorem dX4_reasonAgainstClaiming_25 : decode cX4_reasonAgainstClaiming 25 = .ok (.getfield 69, 3) := by decide +kernel
theorem dX4_reasonAgainstClaiming_28 : decode cX4_reasonAgainstClaiming 28 = .ok (.aload_n 0, 1) := by decide +kernel
theorem dX4_reasonAgainstClaiming_29 : decode cX4_reasonAgainstClaiming 29 = .ok (.getfield 10, 3) := by decide +kernel
theorem dX4_reasonAgainstClaiming_32 : decode cX4_reasonAgainstClaiming 32 = .ok (.getfield 47, 3) := by decide +kernel
theorem dX4_reasonAgainstClaiming_35 : decode cX4_reasonAgainstClaiming 35 = .ok (.iload_n 1, 1) := by decide +kernel
theorem dX4_reasonAgainstClaiming_36 : decode cX4_reasonAgainstClaiming 36 = .ok (.iconst 4, 1) := by decide +kernel
theorem dX4_reasonAgainstClaiming_37 : decode cX4_reasonAgainstClaiming 37 = .ok (.invokevirtual 88, 3) := by decide +kernel
theorem dX4_reasonAgainstClaiming_40 : decode cX4_reasonAgainstClaiming 40 = .ok (.iconst 1, 1) := by decide +kernel
theorem dX4_reasonAgainstClaiming_41 : decode cX4_reasonAgainstClaiming 41 = .ok (.invokevirtual 88, 3) := by decide +kernel
theorem dX4_reasonAgainstClaiming_44 : decode cX4_reasonAgainstClaiming 44 = .ok (.istore_n 2, 1) := by decide +kernel
theorem dX4_reasonAgainstClaiming_45 : decode cX4_reasonAgainstClaiming 45 = .ok (.iload_n 2, 1) := by decide +kernel
theorem dX4_reasonAgainstClaiming_46 : decode cX4_reasonAgainstClaiming 46 = .ok (.iconst 2, 1) := by decide +kernel
theorem dX4_reasonAgainstClaiming_47 : decode cX4_reasonAgainstClaiming 47 = .ok (.if_icmp .lt 7, 3) := by decide +kernel
theorem dX4_reasonAgainstClaiming_50 : decode cX4_reasonAgainstClaiming 50 = .ok (.iconst 2, 1) := by decide +kernel
theorem dX4_reasonAgainstClaiming_51 : decode cX4_reasonAgainstClaiming 51 = .ok (.goto 4, 3) := by decide +kernel
theorem dX4_reasonAgainstClaiming_54 : decode cX4_reasonAgainstClaiming 54 = .ok (.iconst 0, 1) := by decide +kernel
theorem dX4_reasonAgainstClaiming_55 : decode cX4_reasonAgainstClaiming 55 = .ok (.ireturn, 1) := by decide +kernel
theorem dX4_lose_0 : decode cX4_lose 0 = .ok (.aload_n 0, 1) := by decide +kernel
theorem dX4_lose_1 : decode cX4_lose 1 = .ok (.iload_n 1, 1) := by decide +kernel
theorem dX4_lose_2 : decode cX4_lose 2 = .ok (.invokevirtual 179, 3) := by decide +kernel
theorem dX4_lose_5 : decode cX4_lose 5 = .ok (.istore_n 2, 1) := by decide +kernel
theorem dX4_lose_6 : decode cX4_lose 6 = .ok (.iload_n 2, 1) := by decide +kernel
theorem dX4_lose_7 : decode cX4_lose 7 = .ok (.ifCond .eq 8, 3) := by decide +kernel
theorem dX4_lose_10 : decode cX4_lose 10 = .ok (.iload_n 2, 1) := by decide +kernel
theorem dX4_lose_11 : decode cX4_lose 11 = .ok (.invokestatic 137, 3) := by decide +kernel
theorem dX4_lose_14 : decode cX4_lose 14 = .ok (.ireturn, 1) := by decide +kernel
theorem dX4_lose_15 : decode cX4_lose 15 = .ok (.aload_n 0, 1) := by decide +kernel
theorem dX4_lose_16 : decode cX4_lose 16 = .ok (.iload_n 1, 1) := by decide +kernel
theorem dX4_lose_17 : decode cX4_lose 17 = .ok (.invokevirtual 128, 3) := by decide +kernel
theorem dX4_lose_20 : decode cX4_lose 20 = .ok (.aload_n 0, 1) := by decide +kernel
theorem dX4_lose_21 : decode cX4_lose 21 = .ok (.invokevirtual 182, 3) := by decide +kernel
theorem dX4_lose_24 : decode cX4_lose 24 = .ok (.aload_n 0, 1) := by decide +kernel
theorem dX4_lose_25 : decode cX4_lose 25 = .ok (.getfield 10, 3) := by decide +kernel
theorem dX4_lose_28 : decode cX4_lose 28 = .ok (.getfield 69, 3) := by decide +kernel
theorem dX4_lose_31 : decode cX4_lose 31 = .ok (.aload_n 0, 1) := by decide +kernel
theorem dX4_lose_32 : decode cX4_lose 32 = .ok (.getfield 10, 3) := by decide +kernel
theorem dX4_lose_35 : decode cX4_lose 35 = .ok (.getfield 47, 3) := by decide +kernel
theorem dX4_lose_38 : decode cX4_lose 38 = .ok (.iload_n 1, 1) := by decide +kernel
theorem dX4_lose_39 : decode cX4_lose 39 = .ok (.iconst 4, 1) := by decide +kernel
theorem dX4_lose_40 : decode cX4_lose 40 = .ok (.invokevirtual 88, 3) := by decide +kernel
theorem dX4_lose_43 : decode cX4_lose 43 = .ok (.iconst 0, 1) := by decide +kernel
theorem dX4_lose_44 : decode cX4_lose 44 = .ok (.invokevirtual 88, 3) := by decide +kernel
theorem dX4_lose_47 : decode cX4_lose 47 = .ok (.ireturn, 1) := by decide +kernel
theorem dX4_reasonAgainstLosing_0 : decode cX4_reasonAgainstLosing 0 = .ok (.aload_n 0, 1) := by decide +kernel
theorem dX4_reasonAgainstLosing_1 : decode cX4_reasonAgainstLosing 1 = .ok (.iload_n 1, 1) := by decide +kernel
theorem dX4_reasonAgainstLosing_2 : decode cX4_reasonAgainstLosing 2 = .ok (.invokevirtual 85, 3) := by decide +kernel
theorem dX4_reasonAgainstLosing_5 : decode cX4_reasonAgainstLosing 5 = .ok (.ifCond .ne 5, 3) := by decide +kernel
theorem dX4_reasonAgainstLosing_8 : decode cX4_reasonAgainstLosing 8 = .ok (.iconst (-1), 1) := by decide +kernel
theorem dX4_reasonAgainstLosing_9 : decode cX4_reasonAgainstLosing 9 = .ok (.ireturn, 1) := by decide +kernel
theorem dX4_reasonAgainstLosing_10 : decode cX4_reasonAgainstLosing 10 = .ok (.aload_n 0, 1) := by decide +kernel
theorem dX4_reasonAgainstLosing_11 : decode cX4_reasonAgainstLosing 11 = .ok (.iload_n 1, 1) := by decide +kernel
theorem dX4_reasonAgainstLosing_12 : decode cX4_reasonAgainstLosing 12 = .ok (.invokevirtual 95, 3) := by decide +kernel
theorem dX4_reasonAgainstLosing_15 : decode cX4_reasonAgainstLosing 15 = .ok (.istore_n 2, 1) := by decide +kernel
theorem dX4_reasonAgainstLosing_16 : decode cX4_reasonAgainstLosing 16 = .ok (.iload_n 2, 1) := by decide +kernel
theorem dX4_reasonAgainstLosing_17 : decode cX4_reasonAgainstLosing 17 = .ok (.iconst 1, 1) := by decide +kernel
theorem dX4_reasonAgainstLosing_18 : decode cX4_reasonAgainstLosing 18 = .ok (.if_icmp .eq 8, 3) := by decide +kernel
theorem dX4_reasonAgainstLosing_21 : decode cX4_reasonAgainstLosing 21 = .ok (.iload_n 2, 1) := by decide +kernel
theorem dX4_reasonAgainstLosing_22 : decode cX4_reasonAgainstLosing 22 = .ok (.iconst 4, 1) := by decide +kernel
theorem dX4_reasonAgainstLosing_23 : decode cX4_reasonAgainstLosing 23 = .ok (.if_icmp .ne 7, 3) := by decide +kernel
theorem dX4_reasonAgainstLosing_26 : decode cX4_reasonAgainstLosing 26 = .ok (.iconst 0, 1) := by decide +kernel
theorem dX4_reasonAgainstLosing_27 : decode cX4_reasonAgainstLosing 27 = .ok (.goto 4, 3) := by decide +kernel
theorem dX4_reasonAgainstLosing_30 : decode cX4_reasonAgainstLosing 30 = .ok (.iconst 1, 1) := by decide +kernel
theorem dX4_reasonAgainstLosing_31 : decode cX4_reasonAgainstLosing 31 = .ok (.ireturn, 1) := by decide +kernel
theorem dX4_hold_0 : decode cX4_hold 0 = .ok (.aload_n 0, 1) := by decide +kernel
theorem dX4_hold_1 : decode cX4_hold 1 = .ok (.aload_n 0, 1) := by decide +kernel
theorem dX4_hold_2 : decode cX4_hold 2 = .ok (.iload_n 1, 1) := by decide +kernel
theorem dX4_hold_3 : decode cX4_hold 3 = .ok (.iload_n 2, 1) := by decide +kernel
theorem dX4_hold_4 : decode cX4_hold 4 = .ok (.iload_n 3, 1) := by decide +kernel
theorem dX4_hold_5 : decode cX4_hold 5 = .ok (.invokevirtual 185, 3) := by decide +kernel
theorem dX4_hold_8 : decode cX4_hold 8 = .ok (.invokevirtual 65, 3) := by decide +kernel
theorem dX4_hold_11 : decode cX4_hold 11 = .ok (.ireturn, 1) := by decide +kernel
theorem dX4_makeHold_0 : decode cX4_makeHold 0 = .ok (.iload_n 3, 1) := by decide +kernel
theorem dX4_makeHold_1 : decode cX4_makeHold 1 = .ok (.invokestatic 44, 3) := by decide +kernel
theorem dX4_makeHold_4 : decode cX4_makeHold 4 = .ok (.ifCond .ne 5, 3) := by decide +kernel
theorem dX4_makeHold_7 : decode cX4_makeHold 7 = .ok (.iconst (-1), 1) := by decide +kernel
theorem dX4_makeHold_8 : decode cX4_makeHold 8 = .ok (.ireturn, 1) := by decide +kernel
theorem dX4_makeHold_9 : decode cX4_makeHold 9 = .ok (.aload_n 0, 1) := by decide +kernel
theorem dX4_makeHold_10 : decode cX4_makeHold 10 = .ok (.iload_n 1, 1) := by decide +kernel
theorem dX4_makeHold_11 : decode cX4_makeHold 11 = .ok (.iload_n 2, 1) := by decide +kernel
theorem dX4_makeHold_12 : decode cX4_makeHold 12 = .ok (.invokevirtual 189, 3) := by decide +kernel
theorem dX4_makeHold_15 : decode cX4_makeHold 15 = .ok (.istore 4, 2) := by decide +kernel
theorem dX4_makeHold_17 : decode cX4_makeHold 17 = .ok (.iload 4, 2) := by decide +kernel
theorem dX4_makeHold_19 : decode cX4_makeHold 19 = .ok (.ifCond .eq 9, 3) := by decide +kernel
theorem dX4_makeHold_22 : decode cX4_makeHold 22 = .ok (.iload 4, 2) := by decide +kernel
theorem dX4_makeHold_24 : decode cX4_makeHold 24 = .ok (.invokestatic 137, 3) := by decide +kernel
theorem dX4_makeHold_27 : decode cX4_makeHold 27 = .ok (.ireturn, 1) := by decide +kernel
theorem dX4_makeHold_28 : decode cX4_makeHold 28 = .ok (.aload_n 0, 1) := by decide +kernel
theorem dX4_makeHold_29 : decode cX4_makeHold 29 = .ok (.getfield 10, 3) := by decide +kernel
theorem dX4_makeHold_32 : decode cX4_makeHold 32 = .ok (.getfield 192, 3) := by decide +kernel
theorem dX4_makeHold_35 : decode cX4_makeHold 35 = .ok (.invokevirtual 51, 3) := by decide +kernel
theorem dX4_makeHold_38 : decode cX4_makeHold 38 = .ok (.istore 5, 2) := by decide +kernel
theorem dX4_makeHold_40 : decode cX4_makeHold 40 = .ok (.iload 5, 2) := by decide +kernel
theorem dX4_makeHold_42 : decode cX4_makeHold 42 = .ok (.ifCond .ge 6, 3) := by decide +kernel
theorem dX4_makeHold_45 : decode cX4_makeHold 45 = .ok (.bipush (-3), 2) := by decide +kernel
theorem dX4_makeHold_47 : decode cX4_makeHold 47 = .ok (.ireturn, 1) := by decide +kernel
theorem dX4_makeHold_48 : decode cX4_makeHold 48 = .ok (.aload_n 0, 1) := by decide +kernel
theorem dX4_makeHold_49 : decode cX4_makeHold 49 = .ok (.getfield 10, 3) := by decide +kernel
theorem dX4_makeHold_52 : decode cX4_makeHold 52 = .ok (.getfield 192, 3) := by decide +kernel
theorem dX4_makeHold_55 : decode cX4_makeHold 55 = .ok (.iload 5, 2) := by decide +kernel
theorem dX4_makeHold_57 : decode cX4_makeHold 57 = .ok (.iconst 0, 1) := by decide +kernel
theorem dX4_makeHold_58 : decode cX4_makeHold 58 = .ok (.iload_n 1, 1) := by decide +kernel
theorem dX4_makeHold_59 : decode cX4_makeHold 59 = .ok (.invokevirtual 57, 3) := by decide +kernel
theorem dX4_makeHold_62 : decode cX4_makeHold 62 = .ok (.aload_n 0, 1) := by decide +kernel
theorem dX4_makeHold_63 : decode cX4_makeHold 63 = .ok (.getfield 10, 3) := by decide +kernel
theorem dX4_makeHold_66 : decode cX4_makeHold 66 = .ok (.getfield 192, 3) := by decide +kernel
theorem dX4_makeHold_69 : decode cX4_makeHold 69 = .ok (.iload 5, 2) := by decide +kernel
theorem dX4_makeHold_71 : decode cX4_makeHold 71 = .ok (.iconst 1, 1) := by decide +kernel
theorem dX4_makeHold_72 : decode cX4_makeHold 72 = .ok (.iload_n 3, 1) := by decide +kernel
theorem dX4_makeHold_73 : decode cX4_makeHold 73 = .ok (.invokevirtual 57, 3) := by decide +kernel
theorem dX4_makeHold_76 : decode cX4_makeHold 76 = .ok (.aload_n 0, 1) := by decide +kernel
theorem dX4_makeHold_77 : decode cX4_makeHold 77 = .ok (.getfield 10, 3) := by decide +kernel
theorem dX4_makeHold_80 : decode cX4_makeHold 80 = .ok (.getfield 192, 3) := by decide +kernel
theorem dX4_makeHold_83 : decode cX4_makeHold 83 = .ok (.iload 5, 2) := by decide +kernel
theorem dX4_makeHold_85 : decode cX4_makeHold 85 = .ok (.iconst 2, 1) := by decide +kernel
theorem dX4_makeHold_86 : decode cX4_makeHold 86 = .ok (.bipush (-2), 2) := by decide +kernel
theorem dX4_makeHold_88 : decode cX4_makeHold 88 = .ok (.invokevirtual 57, 3) := by decide +kernel
theorem dX4_makeHold_91 : decode cX4_makeHold 91 = .ok (.aload_n 0, 1) := by decide +kernel
theorem dX4_makeHold_92 : decode cX4_makeHold 92 = .ok (.getfield 10, 3) := by decide +kernel
theorem dX4_makeHold_95 : decode cX4_makeHold 95 = .ok (.getfield 192, 3) := by decide +kernel
theorem dX4_makeHold_98 : decode cX4_makeHold 98 = .ok (.iload 5, 2) := by decide +kernel
theorem dX4_makeHold_100 : decode cX4_makeHold 100 = .ok (.iconst 3, 1) := by decide +kernel
theorem dX4_makeHold_101 : decode cX4_makeHold 101 = .ok (.iload_n 2, 1) := by decide +kernel
theorem dX4_makeHold_102 : decode cX4_makeHold 102 = .ok (.invokevirtual 57, 3) := by decide +kernel
theorem dX4_makeHold_105 : decode cX4_makeHold 105 = .ok (.aload_n 0, 1) := by decide +kernel
theorem dX4_makeHold_106 : decode cX4_makeHold 106 = .ok (.iload_n 2, 1) := by decide +kernel
theorem dX4_makeHold_107 : decode cX4_makeHold 107 = .ok (.iload_n 3, 1) := by decide +kernel
theorem dX4_makeHold_108 : decode cX4_makeHold 108 = .ok (.invokevirtual 195, 3) := by decide +kernel
theorem dX4_makeHold_111 : decode cX4_makeHold 111 = .ok (.istore 6, 2) := by decide +kernel
theorem dX4_makeHold_113 : decode cX4_makeHold 113 = .ok (.iload 6, 2) := by decide +kernel
theorem dX4_makeHold_115 : decode cX4_makeHold 115 = .ok (.bipush (-2), 2) := by decide +kernel
theorem dX4_makeHold_117 : decode cX4_makeHold 117 = .ok (.if_icmp .ne 11, 3) := by decide +kernel
theorem dX4_makeHold_120 : decode cX4_makeHold 120 = .ok (.aload_n 0, 1) := by decide +kernel
theorem dX4_makeHold_121 : decode cX4_makeHold 121 = .ok (.iload_n 2, 1) := by decide +kernel
theorem dX4_makeHold_122 : decode cX4_makeHold 122 = .ok (.invokevirtual 198, 3) := by decide +kernel
theorem dX4_makeHold_125 : decode cX4_makeHold 125 = .ok (.goto 22, 3) := by decide +kernel
theorem dX4_makeHold_128 : decode cX4_makeHold 128 = .ok (.aload_n 0, 1) := by decide +kernel
theorem dX4_makeHold_129 : decode cX4_makeHold 129 = .ok (.iload 6, 2) := by decide +kernel
theorem dX4_makeHold_131 : decode cX4_makeHold 131 = .ok (.aload_n 0, 1) := by decide +kernel
theorem dX4_makeHold_132 : decode cX4_makeHold 132 = .ok (.getfield 10, 3) := by decide +kernel
theorem dX4_makeHold_135 : decode cX4_makeHold 135 = .ok (.getfield 47, 3) := by decide +kernel
theorem dX4_makeHold_138 : decode cX4_makeHold 138 = .ok (.iload 6, 2) := by decide +kernel
theorem dX4_makeHold_140 : decode cX4_makeHold 140 = .ok (.iconst 4, 1) := by decide +kernel
theorem dX4_makeHold_141 : decode cX4_makeHold 141 = .ok (.invokevirtual 88, 3) := by decide +kernel
theorem dX4_makeHold_144 : decode cX4_makeHold 144 = .ok (.invokevirtual 61, 3) := by decide +kernel
theorem dX4_makeHold_147 : decode cX4_makeHold 147 = .ok (.aload_n 0, 1) := by decide +kernel
theorem dX4_makeHold_148 : decode cX4_makeHold 148 = .ok (.aload_n 0, 1) := by decide +kernel
theorem dX4_makeHold_149 : decode cX4_makeHold 149 = .ok (.getfield 10, 3) := by decide +kernel
theorem dX4_makeHold_152 : decode cX4_makeHold 152 = .ok (.getfield 192, 3) := by decide +kernel
theorem dX4_makeHold_155 : decode cX4_makeHold 155 = .ok (.invokevirtual 92, 3) := by decide +kernel
theorem dX4_makeHold_158 : decode cX4_makeHold 158 = .ok (.iload_n 2, 1) := by decide +kernel
theorem dX4_makeHold_159 : decode cX4_makeHold 159 = .ok (.invokevirtual 201, 3) := by decide +kernel
theorem dX4_makeHold_162 : decode cX4_makeHold 162 = .ok (.ireturn, 1) := by decide +kernel
theorem dX4_reasonAgainstHolding_0 : decode cX4_reasonAgainstHolding 0 = .ok (.aload_n 0, 1) := by decide +kernel
theorem dX4_reasonAgainstHolding_1 : decode cX4_reasonAgainstHolding 1 = .ok (.iload_n 1, 1) := by decide +kernel
theorem dX4_reasonAgainstHolding_2 : decode cX4_reasonAgainstHolding 2 = .ok (.invokevirtual 143, 3) := by decide +kernel
theorem dX4_reasonAgainstHolding_5 : decode cX4_reasonAgainstHolding 5 = .ok (.ifCond .eq 10, 3) := by decide +kernel
theorem dX4_reasonAgainstHolding_8 : decode cX4_reasonAgainstHolding 8 = .ok (.iload_n 2, 1) := by decide +kernel
theorem dX4_reasonAgainstHolding_9 : decode cX4_reasonAgainstHolding 9 = .ok (.invokestatic 40, 3) := by decide +kernel
theorem dX4_reasonAgainstHolding_12 : decode cX4_reasonAgainstHolding 12 = .ok (.ifCond .ne 5, 3) := by decide +kernel
theorem dX4_reasonAgainstHolding_15 : decode cX4_reasonAgainstHolding 15 = .ok (.iconst (-1), 1) := by decide +kernel
theorem dX4_reasonAgainstHolding_16 : decode cX4_reasonAgainstHolding 16 = .ok (.ireturn, 1) := by decide +kernel
theorem dX4_reasonAgainstHolding_17 : decode cX4_reasonAgainstHolding 17 = .ok (.aload_n 0, 1) := by decide +kernel
theorem dX4_reasonAgainstHolding_18 : decode cX4_reasonAgainstHolding 18 = .ok (.iload_n 1, 1) := by decide +kernel
theorem dX4_reasonAgainstHolding_19 : decode cX4_reasonAgainstHolding 19 = .ok (.invokevirtual 146, 3) := by decide +kernel
theorem dX4_reasonAgainstHolding_22 : decode cX4_reasonAgainstHolding 22 = .ok (.ifCond .eq 5, 3) := by decide +kernel
theorem dX4_reasonAgainstHolding_25 : decode cX4_reasonAgainstHolding 25 = .ok (.iconst 1, 1) := by decide +kernel
theorem dX4_reasonAgainstHolding_26 : decode cX4_reasonAgainstHolding 26 = .ok (.ireturn, 1) := by decide +kernel
theorem dX4_reasonAgainstHolding_27 : decode cX4_reasonAgainstHolding 27 = .ok (.aload_n 0, 1) := by decide +kernel
theorem dX4_reasonAgainstHolding_28 : decode cX4_reasonAgainstHolding 28 = .ok (.iload_n 1, 1) := by decide +kernel
theorem dX4_reasonAgainstHolding_29 : decode cX4_reasonAgainstHolding 29 = .ok (.invokevirtual 204, 3) := by decide +kernel
theorem dX4_reasonAgainstHolding_32 : decode cX4_reasonAgainstHolding 32 = .ok (.iconst 3, 1) := by decide +kernel
theorem dX4_reasonAgainstHolding_33 : decode cX4_reasonAgainstHolding 33 = .ok (.if_icmp .lt 5, 3) := by decide +kernel
theorem dX4_reasonAgainstHolding_36 : decode cX4_reasonAgainstHolding 36 = .ok (.iconst 2, 1) := by decide +kernel
theorem dX4_reasonAgainstHolding_37 : decode cX4_reasonAgainstHolding 37 = .ok (.ireturn, 1) := by decide +kernel
theorem dX4_reasonAgainstHolding_38 : decode cX4_reasonAgainstHolding 38 = .ok (.aload_n 0, 1) := by decide +kernel
theorem dX4_reasonAgainstHolding_39 : decode cX4_reasonAgainstHolding 39 = .ok (.iload_n 1, 1) := by decide +kernel
theorem dX4_reasonAgainstHolding_40 : decode cX4_reasonAgainstHolding 40 = .ok (.iload_n 2, 1) := by decide +kernel
theorem dX4_reasonAgainstHolding_41 : decode cX4_reasonAgainstHolding 41 = .ok (.invokevirtual 121, 3) := by decide +kernel
theorem dX4_reasonAgainstHolding_44 : decode cX4_reasonAgainstHolding 44 = .ok (.bipush (-2), 2) := by decide +kernel
theorem dX4_reasonAgainstHolding_46 : decode cX4_reasonAgainstHolding 46 = .ok (.if_icmp .eq 5, 3) := by decide +kernel
theorem dX4_reasonAgainstHolding_49 : decode cX4_reasonAgainstHolding 49 = .ok (.iconst 3, 1) := by decide +kernel
theorem dX4_reasonAgainstHolding_50 : decode cX4_reasonAgainstHolding 50 = .ok (.ireturn, 1) := by decide +kernel
theorem dX4_reasonAgainstHolding_51 : decode cX4_reasonAgainstHolding 51 = .ok (.aload_n 0, 1) := by decide +kernel
theorem dX4_reasonAgainstHolding_52 : decode cX4_reasonAgainstHolding 52 = .ok (.iload_n 1, 1) := by decide +kernel
theorem dX4_reasonAgainstHolding_53 : decode cX4_reasonAgainstHolding 53 = .ok (.iload_n 2, 1) := by decide +kernel
theorem dX4_reasonAgainstHolding_54 : decode cX4_reasonAgainstHolding 54 = .ok (.invokevirtual 207, 3) := by decide +kernel
theorem dX4_reasonAgainstHolding_57 : decode cX4_reasonAgainstHolding 57 = .ok (.ifCond .eq 7, 3) := by decide +kernel
theorem dX4_reasonAgainstHolding_60 : decode cX4_reasonAgainstHolding 60 = .ok (.iconst 4, 1) := by decide +kernel
theorem dX4_reasonAgainstHolding_61 : decode cX4_reasonAgainstHolding 61 = .ok (.goto 4, 3) := by decide +kernel
theorem dX4_reasonAgainstHolding_64 : decode cX4_reasonAgainstHolding 64 = .ok (.iconst 0, 1) := by decide +kernel
theorem dX4_reasonAgainstHolding_65 : decode cX4_reasonAgainstHolding 65 = .ok (.ireturn, 1) := by decide +kernel
theorem dX4_cancelHold_0 : decode cX4_cancelHold 0 = .ok (.aload_n 0, 1) := by decide +kernel
theorem dX4_cancelHold_1 : decode cX4_cancelHold 1 = .ok (.aload_n 0, 1) := by decide +kernel
theorem dX4_cancelHold_2 : decode cX4_cancelHold 2 = .ok (.iload_n 1, 1) := by decide +kernel
theorem dX4_cancelHold_3 : decode cX4_cancelHold 3 = .ok (.iload_n 2, 1) := by decide +kernel
theorem dX4_cancelHold_4 : decode cX4_cancelHold 4 = .ok (.invokevirtual 210, 3) := by decide +kernel
theorem dX4_cancelHold_7 : decode cX4_cancelHold 7 = .ok (.invokevirtual 65, 3) := by decide +kernel
theorem dX4_cancelHold_10 : decode cX4_cancelHold 10 = .ok (.ireturn, 1) := by decide +kernel
theorem dX4_dropHold_0 : decode cX4_dropHold 0 = .ok (.aload_n 0, 1) := by decide +kernel
theorem dX4_dropHold_1 : decode cX4_dropHold 1 = .ok (.iload_n 1, 1) := by decide +kernel
theorem dX4_dropHold_2 : decode cX4_dropHold 2 = .ok (.invokevirtual 143, 3) := by decide +kernel
theorem dX4_dropHold_5 : decode cX4_dropHold 5 = .ok (.ifCond .eq 10, 3) := by decide +kernel
theorem dX4_dropHold_8 : decode cX4_dropHold 8 = .ok (.iload_n 2, 1) := by decide +kernel
theorem dX4_dropHold_9 : decode cX4_dropHold 9 = .ok (.invokestatic 40, 3) := by decide +kernel
theorem dX4_dropHold_12 : decode cX4_dropHold 12 = .ok (.ifCond .ne 5, 3) := by decide +kernel
theorem dX4_dropHold_15 : decode cX4_dropHold 15 = .ok (.iconst (-1), 1) := by decide +kernel
theorem dX4_dropHold_16 : decode cX4_dropHold 16 = .ok (.ireturn, 1) := by decide +kernel
theorem dX4_dropHold_17 : decode cX4_dropHold 17 = .ok (.aload_n 0, 1) := by decide +kernel
theorem dX4_dropHold_18 : decode cX4_dropHold 18 = .ok (.iload_n 1, 1) := by decide +kernel
theorem dX4_dropHold_19 : decode cX4_dropHold 19 = .ok (.iload_n 2, 1) := by decide +kernel
theorem dX4_dropHold_20 : decode cX4_dropHold 20 = .ok (.invokevirtual 121, 3) := by decide +kernel
theorem dX4_dropHold_23 : decode cX4_dropHold 23 = .ok (.istore_n 3, 1) := by decide +kernel
theorem dX4_dropHold_24 : decode cX4_dropHold 24 = .ok (.iload_n 3, 1) := by decide +kernel
theorem dX4_dropHold_25 : decode cX4_dropHold 25 = .ok (.bipush (-2), 2) := by decide +kernel
theorem dX4_dropHold_27 : decode cX4_dropHold 27 = .ok (.if_icmp .ne 6, 3) := by decide +kernel
theorem dX4_dropHold_30 : decode cX4_dropHold 30 = .ok (.bipush (-2), 2) := by decide +kernel
theorem dX4_dropHold_32 : decode cX4_dropHold 32 = .ok (.ireturn, 1) := by decide +kernel
theorem dX4_dropHold_33 : decode cX4_dropHold 33 = .ok (.aload_n 0, 1) := by decide +kernel
theorem dX4_dropHold_34 : decode cX4_dropHold 34 = .ok (.getfield 10, 3) := by decide +kernel
theorem dX4_dropHold_37 : decode cX4_dropHold 37 = .ok (.getfield 192, 3) := by decide +kernel
theorem dX4_dropHold_40 : decode cX4_dropHold 40 = .ok (.iload_n 3, 1) := by decide +kernel
theorem dX4_dropHold_41 : decode cX4_dropHold 41 = .ok (.iconst 2, 1) := by decide +kernel
theorem dX4_dropHold_42 : decode cX4_dropHold 42 = .ok (.invokevirtual 88, 3) := by decide +kernel
theorem dX4_dropHold_45 : decode cX4_dropHold 45 = .ok (.istore 4, 2) := by decide +kernel
theorem dX4_dropHold_47 : decode cX4_dropHold 47 = .ok (.aload_n 0, 1) := by decide +kernel
theorem dX4_dropHold_48 : decode cX4_dropHold 48 = .ok (.iload_n 3, 1) := by decide +kernel
theorem dX4_dropHold_49 : decode cX4_dropHold 49 = .ok (.invokevirtual 124, 3) := by decide +kernel
theorem dX4_dropHold_52 : decode cX4_dropHold 52 = .ok (.iload 4, 2) := by decide +kernel
theorem dX4_dropHold_54 : decode cX4_dropHold 54 = .ok (.bipush (-2), 2) := by decide +kernel
theorem dX4_dropHold_56 : decode cX4_dropHold 56 = .ok (.if_icmp .eq 32, 3) := by decide +kernel
theorem dX4_dropHold_59 : decode cX4_dropHold 59 = .ok (.aload_n 0, 1) := by decide +kernel
theorem dX4_dropHold_60 : decode cX4_dropHold 60 = .ok (.iload 4, 2) := by decide +kernel
theorem dX4_dropHold_62 : decode cX4_dropHold 62 = .ok (.invokevirtual 95, 3) := by decide +kernel
theorem dX4_dropHold_65 : decode cX4_dropHold 65 = .ok (.iconst 3, 1) := by decide +kernel
theorem dX4_dropHold_66 : decode cX4_dropHold 66 = .ok (.if_icmp .ne 22, 3) := by decide +kernel
theorem dX4_dropHold_69 : decode cX4_dropHold 69 = .ok (.aload_n 0, 1) := by decide +kernel
theorem dX4_dropHold_70 : decode cX4_dropHold 70 = .ok (.iload 4, 2) := by decide +kernel
theorem dX4_dropHold_72 : decode cX4_dropHold 72 = .ok (.aload_n 0, 1) := by decide +kernel
theorem dX4_dropHold_73 : decode cX4_dropHold 73 = .ok (.getfield 10, 3) := by decide +kernel
theorem dX4_dropHold_76 : decode cX4_dropHold 76 = .ok (.getfield 47, 3) := by decide +kernel
theorem dX4_dropHold_79 : decode cX4_dropHold 79 = .ok (.iload 4, 2) := by decide +kernel
theorem dX4_dropHold_81 : decode cX4_dropHold 81 = .ok (.iconst 4, 1) := by decide +kernel
theorem dX4_dropHold_82 : decode cX4_dropHold 82 = .ok (.invokevirtual 88, 3) := by decide +kernel
theorem dX4_dropHold_85 : decode cX4_dropHold 85 = .ok (.invokevirtual 61, 3) := by decide +kernel
theorem dX4_dropHold_88 : decode cX4_dropHold 88 = .ok (.aload_n 0, 1) := by decide +kernel
theorem dX4_dropHold_89 : decode cX4_dropHold 89 = .ok (.aload_n 0, 1) := by decide +kernel
theorem dX4_dropHold_90 : decode cX4_dropHold 90 = .ok (.getfield 10, 3) := by decide +kernel
theorem dX4_dropHold_93 : decode cX4_dropHold 93 = .ok (.getfield 192, 3) := by decide +kernel
theorem dX4_dropHold_96 : decode cX4_dropHold 96 = .ok (.invokevirtual 92, 3) := by decide +kernel
theorem dX4_dropHold_99 : decode cX4_dropHold 99 = .ok (.iload_n 2, 1) := by decide +kernel
theorem dX4_dropHold_100 : decode cX4_dropHold 100 = .ok (.invokevirtual 213, 3) := by decide +kernel
theorem dX4_dropHold_103 : decode cX4_dropHold 103 = .ok (.ireturn, 1) := by decide +kernel
theorem dX4_reason_0 : decode cX4_reason 0 = .ok (.iload_n 1, 1) := by decide +kernel
theorem dX4_reason_1 : decode cX4_reason 1 = .ok (.iconst 1, 1) := by decide +kernel
theorem dX4_reason_2 : decode cX4_reason 2 = .ok (.if_icmp .lt 14, 3) := by decide +kernel
theorem dX4_reason_5 : decode cX4_reason 5 = .ok (.iload_n 1, 1) := by decide +kernel
theorem dX4_reason_6 : decode cX4_reason 6 = .ok (.iconst 3, 1) := by decide +kernel
theorem dX4_reason_7 : decode cX4_reason 7 = .ok (.if_icmp .gt 9, 3) := by decide +kernel
theorem dX4_reason_10 : decode cX4_reason 10 = .ok (.iload_n 3, 1) := by decide +kernel
theorem dX4_reason_11 : decode cX4_reason 11 = .ok (.ifCond .eq 5, 3) := by decide +kernel
theorem dX4_reason_14 : decode cX4_reason 14 = .ok (.iconst (-1), 1) := by decide +kernel
theorem dX4_reason_15 : decode cX4_reason 15 = .ok (.ireturn, 1) := by decide +kernel
theorem dX4_reason_16 : decode cX4_reason 16 = .ok (.iload_n 1, 1) := by decide +kernel
theorem dX4_reason_17 : decode cX4_reason 17 = .ok (.tableswitch 67 0 4 #[35, 42, 48, 54, 60], 35) := by decide +kernel
theorem dX4_reason_52 : decode cX4_reason 52 = .ok (.aload_n 0, 1) := by decide +kernel
theorem dX4_reason_53 : decode cX4_reason 53 = .ok (.iload_n 2, 1) := by decide +kernel
theorem dX4_reason_54 : decode cX4_reason 54 = .ok (.iload_n 3, 1) := by decide +kernel
theorem dX4_reason_55 : decode cX4_reason 55 = .ok (.invokevirtual 134, 3) := by decide +kernel
theorem dX4_reason_58 : decode cX4_reason 58 = .ok (.ireturn, 1) := by decide +kernel
theorem dX4_reason_59 : decode cX4_reason 59 = .ok (.aload_n 0, 1) := by decide +kernel
theorem dX4_reason_60 : decode cX4_reason 60 = .ok (.iload_n 2, 1) := by decide +kernel
theorem dX4_reason_61 : decode cX4_reason 61 = .ok (.invokevirtual 170, 3) := by decide +kernel
theorem dX4_reason_64 : decode cX4_reason 64 = .ok (.ireturn, 1) := by decide +kernel
theorem dX4_reason_65 : decode cX4_reason 65 = .ok (.aload_n 0, 1) := by decide +kernel
theorem dX4_reason_66 : decode cX4_reason 66 = .ok (.iload_n 2, 1) := by decide +kernel
theorem dX4_reason_67 : decode cX4_reason 67 = .ok (.invokevirtual 176, 3) := by decide +kernel
theorem dX4_reason_70 : decode cX4_reason 70 = .ok (.ireturn, 1) := by decide +kernel
theorem dX4_reason_71 : decode cX4_reason 71 = .ok (.aload_n 0, 1) := by decide +kernel
theorem dX4_reason_72 : decode cX4_reason 72 = .ok (.iload_n 2, 1) := by decide +kernel
theorem dX4_reason_73 : decode cX4_reason 73 = .ok (.invokevirtual 179, 3) := by decide +kernel
theorem dX4_reason_76 : decode cX4_reason 76 = .ok (.ireturn, 1) := by decide +kernel
theorem dX4_reason_77 : decode cX4_reason 77 = .ok (.aload_n 0, 1) := by decide +kernel
theorem dX4_reason_78 : decode cX4_reason 78 = .ok (.iload_n 2, 1) := by decide +kernel
theorem dX4_reason_79 : decode cX4_reason 79 = .ok (.iload_n 3, 1) := by decide +kernel
theorem dX4_reason_80 : decode cX4_reason 80 = .ok (.invokevirtual 189, 3) := by decide +kernel
theorem dX4_reason_83 : decode cX4_reason 83 = .ok (.ireturn, 1) := by decide +kernel
theorem dX4_reason_84 : decode cX4_reason 84 = .ok (.iconst (-1), 1) := by decide +kernel
theorem dX4_reason_85 : decode cX4_reason 85 = .ok (.ireturn, 1) := by decide +kernel
theorem dX4_holdCount_0 : decode cX4_holdCount 0 = .ok (.iload_n 1, 1) := by decide +kernel
theorem dX4_holdCount_1 : decode cX4_holdCount 1 = .ok (.iconst (-1), 1) := by decide +kernel
theorem dX4_holdCount_2 : decode cX4_holdCount 2 = .ok (.if_icmp .ne 14, 3) := by decide +kernel
theorem dX4_holdCount_5 : decode cX4_holdCount 5 = .ok (.aload_n 0, 1) := by decide +kernel
theorem dX4_holdCount_6 : decode cX4_holdCount 6 = .ok (.getfield 10, 3) := by decide +kernel
theorem dX4_holdCount_9 : decode cX4_holdCount 9 = .ok (.getfield 192, 3) := by decide +kernel
theorem dX4_holdCount_12 : decode cX4_holdCount 12 = .ok (.invokevirtual 92, 3) := by decide +kernel
theorem dX4_holdCount_15 : decode cX4_holdCount 15 = .ok (.ireturn, 1) := by decide +kernel
theorem dX4_holdCount_16 : decode cX4_holdCount 16 = .ok (.iload_n 1, 1) := by decide +kernel
theorem dX4_holdCount_17 : decode cX4_holdCount 17 = .ok (.invokestatic 40, 3) := by decide +kernel
theorem dX4_holdCount_20 : decode cX4_holdCount 20 = .ok (.ifCond .eq 21, 3) := by decide +kernel
theorem dX4_holdCount_23 : decode cX4_holdCount 23 = .ok (.aload_n 0, 1) := by decide +kernel
theorem dX4_holdCount_24 : decode cX4_holdCount 24 = .ok (.aload_n 0, 1) := by decide +kernel
theorem dX4_holdCount_25 : decode cX4_holdCount 25 = .ok (.getfield 10, 3) := by decide +kernel
theorem dX4_holdCount_28 : decode cX4_holdCount 28 = .ok (.getfield 192, 3) := by decide +kernel
theorem dX4_holdCount_31 : decode cX4_holdCount 31 = .ok (.invokevirtual 92, 3) := by decide +kernel
theorem dX4_holdCount_34 : decode cX4_holdCount 34 = .ok (.iload_n 1, 1) := by decide +kernel
theorem dX4_holdCount_35 : decode cX4_holdCount 35 = .ok (.invokevirtual 213, 3) := by decide +kernel
theorem dX4_holdCount_38 : decode cX4_holdCount 38 = .ok (.goto 4, 3) := by decide +kernel
theorem dX4_holdCount_41 : decode cX4_holdCount 41 = .ok (.iconst (-1), 1) := by decide +kernel
theorem dX4_holdCount_42 : decode cX4_holdCount 42 = .ok (.ireturn, 1) := by decide +kernel
theorem dX4_waiting_0 : decode cX4_waiting 0 = .ok (.iload_n 1, 1) := by decide +kernel
theorem dX4_waiting_1 : decode cX4_waiting 1 = .ok (.invokestatic 40, 3) := by decide +kernel
theorem dX4_waiting_4 : decode cX4_waiting 4 = .ok (.ifCond .eq 21, 3) := by decide +kernel
theorem dX4_waiting_7 : decode cX4_waiting 7 = .ok (.aload_n 0, 1) := by decide +kernel
theorem dX4_waiting_8 : decode cX4_waiting 8 = .ok (.aload_n 0, 1) := by decide +kernel
theorem dX4_waiting_9 : decode cX4_waiting 9 = .ok (.getfield 10, 3) := by decide +kernel
theorem dX4_waiting_12 : decode cX4_waiting 12 = .ok (.getfield 192, 3) := by decide +kernel
theorem dX4_waiting_15 : decode cX4_waiting 15 = .ok (.invokevirtual 92, 3) := by decide +kernel
theorem dX4_waiting_18 : decode cX4_waiting 18 = .ok (.iload_n 1, 1) := by decide +kernel
theorem dX4_waiting_19 : decode cX4_waiting 19 = .ok (.invokevirtual 201, 3) := by decide +kernel
theorem dX4_waiting_22 : decode cX4_waiting 22 = .ok (.goto 4, 3) := by decide +kernel
theorem dX4_waiting_25 : decode cX4_waiting 25 = .ok (.iconst (-1), 1) := by decide +kernel
theorem dX4_waiting_26 : decode cX4_waiting 26 = .ok (.ireturn, 1) := by decide +kernel
theorem dX4_holdAt_0 : decode cX4_holdAt 0 = .ok (.iload_n 1, 1) := by decide +kernel
theorem dX4_holdAt_1 : decode cX4_holdAt 1 = .ok (.invokestatic 40, 3) := by decide +kernel
theorem dX4_holdAt_4 : decode cX4_holdAt 4 = .ok (.ifCond .eq 12, 3) := by decide +kernel
theorem dX4_holdAt_7 : decode cX4_holdAt 7 = .ok (.iload_n 3, 1) := by decide +kernel
theorem dX4_holdAt_8 : decode cX4_holdAt 8 = .ok (.ifCond .lt 8, 3) := by decide +kernel
theorem dX4_holdAt_11 : decode cX4_holdAt 11 = .ok (.iload_n 3, 1) := by decide +kernel
theorem dX4_holdAt_12 : decode cX4_holdAt 12 = .ok (.iconst 3, 1) := by decide +kernel
theorem dX4_holdAt_13 : decode cX4_holdAt 13 = .ok (.if_icmp .lt 5, 3) := by decide +kernel
theorem dX4_holdAt_16 : decode cX4_holdAt 16 = .ok (.iconst (-1), 1) := by decide +kernel
theorem dX4_holdAt_17 : decode cX4_holdAt 17 = .ok (.ireturn, 1) := by decide +kernel
theorem dX4_holdAt_18 : decode cX4_holdAt 18 = .ok (.iconst 0, 1) := by decide +kernel
theorem dX4_holdAt_19 : decode cX4_holdAt 19 = .ok (.istore 4, 2) := by decide +kernel
theorem dX4_holdAt_21 : decode cX4_holdAt 21 = .ok (.iconst 0, 1) := by decide +kernel
theorem dX4_holdAt_22 : decode cX4_holdAt 22 = .ok (.istore 5, 2) := by decide +kernel
theorem dX4_holdAt_24 : decode cX4_holdAt 24 = .ok (.iload 5, 2) := by decide +kernel
theorem dX4_holdAt_26 : decode cX4_holdAt 26 = .ok (.aload_n 0, 1) := by decide +kernel
theorem dX4_holdAt_27 : decode cX4_holdAt 27 = .ok (.getfield 10, 3) := by decide +kernel
theorem dX4_holdAt_30 : decode cX4_holdAt 30 = .ok (.getfield 192, 3) := by decide +kernel
theorem dX4_holdAt_33 : decode cX4_holdAt 33 = .ok (.invokevirtual 92, 3) := by decide +kernel
theorem dX4_holdAt_36 : decode cX4_holdAt 36 = .ok (.if_icmp .ge 52, 3) := by decide +kernel
theorem dX4_holdAt_39 : decode cX4_holdAt 39 = .ok (.aload_n 0, 1) := by decide +kernel
theorem dX4_holdAt_40 : decode cX4_holdAt 40 = .ok (.getfield 10, 3) := by decide +kernel
theorem dX4_holdAt_43 : decode cX4_holdAt 43 = .ok (.getfield 192, 3) := by decide +kernel
theorem dX4_holdAt_46 : decode cX4_holdAt 46 = .ok (.iload 5, 2) := by decide +kernel
theorem dX4_holdAt_48 : decode cX4_holdAt 48 = .ok (.iconst 3, 1) := by decide +kernel
theorem dX4_holdAt_49 : decode cX4_holdAt 49 = .ok (.invokevirtual 88, 3) := by decide +kernel
theorem dX4_holdAt_52 : decode cX4_holdAt 52 = .ok (.iload_n 1, 1) := by decide +kernel
theorem dX4_holdAt_53 : decode cX4_holdAt 53 = .ok (.if_icmp .eq 6, 3) := by decide +kernel
theorem dX4_holdAt_56 : decode cX4_holdAt 56 = .ok (.goto 26, 3) := by decide +kernel
theorem dX4_holdAt_59 : decode cX4_holdAt 59 = .ok (.iload 4, 2) := by decide +kernel
theorem dX4_holdAt_61 : decode cX4_holdAt 61 = .ok (.iload_n 2, 1) := by decide +kernel
theorem dX4_holdAt_62 : decode cX4_holdAt 62 = .ok (.if_icmp .ne 17, 3) := by decide +kernel
theorem dX4_holdAt_65 : decode cX4_holdAt 65 = .ok (.aload_n 0, 1) := by decide +kernel
theorem dX4_holdAt_66 : decode cX4_holdAt 66 = .ok (.getfield 10, 3) := by decide +kernel
theorem dX4_holdAt_69 : decode cX4_holdAt 69 = .ok (.getfield 192, 3) := by decide +kernel
theorem dX4_holdAt_72 : decode cX4_holdAt 72 = .ok (.iload 5, 2) := by decide +kernel
theorem dX4_holdAt_74 : decode cX4_holdAt 74 = .ok (.iload_n 3, 1) := by decide +kernel
theorem dX4_holdAt_75 : decode cX4_holdAt 75 = .ok (.invokevirtual 88, 3) := by decide +kernel
theorem dX4_holdAt_78 : decode cX4_holdAt 78 = .ok (.ireturn, 1) := by decide +kernel
theorem dX4_holdAt_79 : decode cX4_holdAt 79 = .ok (.iinc 4 1, 3) := by decide +kernel
theorem dX4_holdAt_82 : decode cX4_holdAt 82 = .ok (.iinc 5 1, 3) := by decide +kernel
theorem dX4_holdAt_85 : decode cX4_holdAt 85 = .ok (.goto (-61), 3) := by decide +kernel
theorem dX4_holdAt_88 : decode cX4_holdAt 88 = .ok (.bipush (-2), 2) := by decide +kernel
theorem dX4_holdAt_90 : decode cX4_holdAt 90 = .ok (.ireturn, 1) := by decide +kernel
theorem dX4_place_0 : decode cX4_place 0 = .ok (.aload_n 0, 1) := by decide +kernel
theorem dX4_place_1 : decode cX4_place 1 = .ok (.iload_n 1, 1) := by decide +kernel
theorem dX4_place_2 : decode cX4_place 2 = .ok (.invokevirtual 143, 3) := by decide +kernel
theorem dX4_place_5 : decode cX4_place 5 = .ok (.ifCond .eq 10, 3) := by decide +kernel
theorem dX4_place_8 : decode cX4_place 8 = .ok (.iload_n 2, 1) := by decide +kernel
theorem dX4_place_9 : decode cX4_place 9 = .ok (.invokestatic 40, 3) := by decide +kernel
theorem dX4_place_12 : decode cX4_place 12 = .ok (.ifCond .ne 5, 3) := by decide +kernel
theorem dX4_place_15 : decode cX4_place 15 = .ok (.iconst (-1), 1) := by decide +kernel
theorem dX4_place_16 : decode cX4_place 16 = .ok (.ireturn, 1) := by decide +kernel
theorem dX4_place_17 : decode cX4_place 17 = .ok (.aload_n 0, 1) := by decide +kernel
theorem dX4_place_18 : decode cX4_place 18 = .ok (.iload_n 1, 1) := by decide +kernel
theorem dX4_place_19 : decode cX4_place 19 = .ok (.iload_n 2, 1) := by decide +kernel
theorem dX4_place_20 : decode cX4_place 20 = .ok (.invokevirtual 121, 3) := by decide +kernel
theorem dX4_place_23 : decode cX4_place 23 = .ok (.istore_n 3, 1) := by decide +kernel
theorem dX4_place_24 : decode cX4_place 24 = .ok (.iload_n 3, 1) := by decide +kernel
theorem dX4_place_25 : decode cX4_place 25 = .ok (.bipush (-2), 2) := by decide +kernel
theorem dX4_place_27 : decode cX4_place 27 = .ok (.if_icmp .ne 8, 3) := by decide +kernel
theorem dX4_place_30 : decode cX4_place 30 = .ok (.bipush (-2), 2) := by decide +kernel
theorem dX4_place_32 : decode cX4_place 32 = .ok (.goto 9, 3) := by decide +kernel
theorem dX4_place_35 : decode cX4_place 35 = .ok (.aload_n 0, 1) := by decide +kernel
theorem dX4_place_36 : decode cX4_place 36 = .ok (.iload_n 3, 1) := by decide +kernel
theorem dX4_place_37 : decode cX4_place 37 = .ok (.iload_n 2, 1) := by decide +kernel
theorem dX4_place_38 : decode cX4_place 38 = .ok (.invokevirtual 213, 3) := by decide +kernel
theorem dX4_place_41 : decode cX4_place 41 = .ok (.ireturn, 1) := by decide +kernel
theorem dX4_estimate_0 : decode cX4_estimate 0 = .ok (.aload_n 0, 1) := by decide +kernel
theorem dX4_estimate_1 : decode cX4_estimate 1 = .ok (.iload_n 1, 1) := by decide +kernel
theorem dX4_estimate_2 : decode cX4_estimate 2 = .ok (.invokevirtual 143, 3) := by decide +kernel
theorem dX4_estimate_5 : decode cX4_estimate 5 = .ok (.ifCond .eq 10, 3) := by decide +kernel
theorem dX4_estimate_8 : decode cX4_estimate 8 = .ok (.iload_n 2, 1) := by decide +kernel
theorem dX4_estimate_9 : decode cX4_estimate 9 = .ok (.invokestatic 40, 3) := by decide +kernel
theorem dX4_estimate_12 : decode cX4_estimate 12 = .ok (.ifCond .ne 5, 3) := by decide +kernel
theorem dX4_estimate_15 : decode cX4_estimate 15 = .ok (.iconst (-1), 1) := by decide +kernel
theorem dX4_estimate_16 : decode cX4_estimate 16 = .ok (.ireturn, 1) := by decide +kernel
theorem dX4_estimate_17 : decode cX4_estimate 17 = .ok (.aload_n 0, 1) := by decide +kernel
theorem dX4_estimate_18 : decode cX4_estimate 18 = .ok (.iload_n 1, 1) := by decide +kernel
theorem dX4_estimate_19 : decode cX4_estimate 19 = .ok (.iload_n 2, 1) := by decide +kernel
theorem dX4_estimate_20 : decode cX4_estimate 20 = .ok (.invokevirtual 121, 3) := by decide +kernel
theorem dX4_estimate_23 : decode cX4_estimate 23 = .ok (.istore_n 3, 1) := by decide +kernel
theorem dX4_estimate_24 : decode cX4_estimate 24 = .ok (.iload_n 3, 1) := by decide +kernel
theorem dX4_estimate_25 : decode cX4_estimate 25 = .ok (.bipush (-2), 2) := by decide +kernel
theorem dX4_estimate_27 : decode cX4_estimate 27 = .ok (.if_icmp .eq 20, 3) := by decide +kernel
theorem dX4_estimate_30 : decode cX4_estimate 30 = .ok (.aload_n 0, 1) := by decide +kernel
theorem dX4_estimate_31 : decode cX4_estimate 31 = .ok (.getfield 10, 3) := by decide +kernel
theorem dX4_estimate_34 : decode cX4_estimate 34 = .ok (.getfield 192, 3) := by decide +kernel
theorem dX4_estimate_37 : decode cX4_estimate 37 = .ok (.iload_n 3, 1) := by decide +kernel
theorem dX4_estimate_38 : decode cX4_estimate 38 = .ok (.iconst 2, 1) := by decide +kernel
theorem dX4_estimate_39 : decode cX4_estimate 39 = .ok (.invokevirtual 88, 3) := by decide +kernel
theorem dX4_estimate_42 : decode cX4_estimate 42 = .ok (.bipush (-2), 2) := by decide +kernel
theorem dX4_estimate_44 : decode cX4_estimate 44 = .ok (.if_icmp .eq 6, 3) := by decide +kernel
theorem dX4_estimate_47 : decode cX4_estimate 47 = .ok (.bipush (-2), 2) := by decide +kernel
theorem dX4_estimate_49 : decode cX4_estimate 49 = .ok (.ireturn, 1) := by decide +kernel
theorem dX4_estimate_50 : decode cX4_estimate 50 = .ok (.aload_n 0, 1) := by decide +kernel
theorem dX4_estimate_51 : decode cX4_estimate 51 = .ok (.iload_n 3, 1) := by decide +kernel
theorem dX4_estimate_52 : decode cX4_estimate 52 = .ok (.iload_n 2, 1) := by decide +kernel
theorem dX4_estimate_53 : decode cX4_estimate 53 = .ok (.invokevirtual 201, 3) := by decide +kernel
theorem dX4_estimate_56 : decode cX4_estimate 56 = .ok (.istore 4, 2) := by decide +kernel
theorem dX4_estimate_58 : decode cX4_estimate 58 = .ok (.iconst 0, 1) := by decide +kernel
theorem dX4_estimate_59 : decode cX4_estimate 59 = .ok (.istore 5, 2) := by decide +kernel
theorem dX4_estimate_61 : decode cX4_estimate 61 = .ok (.iload 5, 2) := by decide +kernel
theorem dX4_estimate_63 : decode cX4_estimate 63 = .ok (.aload_n 0, 1) := by decide +kernel
theorem dX4_estimate_64 : decode cX4_estimate 64 = .ok (.getfield 10, 3) := by decide +kernel
theorem dX4_estimate_67 : decode cX4_estimate 67 = .ok (.getfield 47, 3) := by decide +kernel
theorem dX4_estimate_70 : decode cX4_estimate 70 = .ok (.invokevirtual 92, 3) := by decide +kernel
theorem dX4_estimate_73 : decode cX4_estimate 73 = .ok (.if_icmp .ge 42, 3) := by decide +kernel
theorem dX4_estimate_76 : decode cX4_estimate 76 = .ok (.aload_n 0, 1) := by decide +kernel
theorem dX4_estimate_77 : decode cX4_estimate 77 = .ok (.iload 5, 2) := by decide +kernel
theorem dX4_estimate_79 : decode cX4_estimate 79 = .ok (.iload_n 2, 1) := by decide +kernel
theorem dX4_estimate_80 : decode cX4_estimate 80 = .ok (.invokevirtual 216, 3) := by decide +kernel
theorem dX4_estimate_83 : decode cX4_estimate 83 = .ok (.istore 6, 2) := by decide +kernel
theorem dX4_estimate_85 : decode cX4_estimate 85 = .ok (.iload 6, 2) := by decide +kernel
theorem dX4_estimate_87 : decode cX4_estimate 87 = .ok (.bipush (-2), 2) := by decide +kernel
theorem dX4_estimate_89 : decode cX4_estimate 89 = .ok (.if_icmp .eq 20, 3) := by decide +kernel
theorem dX4_estimate_92 : decode cX4_estimate 92 = .ok (.aload_n 0, 1) := by decide +kernel
theorem dX4_estimate_93 : decode cX4_estimate 93 = .ok (.iload 6, 2) := by decide +kernel
theorem dX4_estimate_95 : decode cX4_estimate 95 = .ok (.iload 5, 2) := by decide +kernel
theorem dX4_estimate_97 : decode cX4_estimate 97 = .ok (.iload_n 2, 1) := by decide +kernel
theorem dX4_estimate_98 : decode cX4_estimate 98 = .ok (.invokevirtual 219, 3) := by decide +kernel
theorem dX4_estimate_101 : decode cX4_estimate 101 = .ok (.iload 4, 2) := by decide +kernel
theorem dX4_estimate_103 : decode cX4_estimate 103 = .ok (.if_icmp .ne 6, 3) := by decide +kernel
theorem dX4_estimate_106 : decode cX4_estimate 106 = .ok (.iload 6, 2) := by decide +kernel
theorem dX4_estimate_108 : decode cX4_estimate 108 = .ok (.ireturn, 1) := by decide +kernel
theorem dX4_estimate_109 : decode cX4_estimate 109 = .ok (.iinc 5 1, 3) := by decide +kernel
theorem dX4_estimate_112 : decode cX4_estimate 112 = .ok (.goto (-51), 3) := by decide +kernel
theorem dX4_estimate_115 : decode cX4_estimate 115 = .ok (.bipush (-2), 2) := by decide +kernel
theorem dX4_estimate_117 : decode cX4_estimate 117 = .ok (.ireturn, 1) := by decide +kernel
theorem dX4_expectedDay_0 : decode cX4_expectedDay 0 = .ok (.aload_n 0, 1) := by decide +kernel
theorem dX4_expectedDay_1 : decode cX4_expectedDay 1 = .ok (.iload_n 1, 1) := by decide +kernel
theorem dX4_expectedDay_2 : decode cX4_expectedDay 2 = .ok (.invokevirtual 118, 3) := by decide +kernel
theorem dX4_expectedDay_5 : decode cX4_expectedDay 5 = .ok (.iload_n 2, 1) := by decide +kernel
theorem dX4_expectedDay_6 : decode cX4_expectedDay 6 = .ok (.if_icmp .eq 6, 3) := by decide +kernel
theorem dX4_expectedDay_9 : decode cX4_expectedDay 9 = .ok (.bipush (-2), 2) := by decide +kernel
theorem dX4_expectedDay_11 : decode cX4_expectedDay 11 = .ok (.ireturn, 1) := by decide +kernel
theorem dX4_expectedDay_12 : decode cX4_expectedDay 12 = .ok (.aload_n 0, 1) := by decide +kernel
theorem dX4_expectedDay_13 : decode cX4_expectedDay 13 = .ok (.getfield 10, 3) := by decide +kernel
theorem dX4_expectedDay_16 : decode cX4_expectedDay 16 = .ok (.getfield 47, 3) := by decide +kernel
theorem dX4_expectedDay_19 : decode cX4_expectedDay 19 = .ok (.iload_n 1, 1) := by decide +kernel
theorem dX4_expectedDay_20 : decode cX4_expectedDay 20 = .ok (.bipush 6, 2) := by decide +kernel
theorem dX4_expectedDay_22 : decode cX4_expectedDay 22 = .ok (.invokevirtual 88, 3) := by decide +kernel
theorem dX4_expectedDay_25 : decode cX4_expectedDay 25 = .ok (.istore_n 3, 1) := by decide +kernel
theorem dX4_expectedDay_26 : decode cX4_expectedDay 26 = .ok (.aload_n 0, 1) := by decide +kernel
theorem dX4_expectedDay_27 : decode cX4_expectedDay 27 = .ok (.iload_n 1, 1) := by decide +kernel
theorem dX4_expectedDay_28 : decode cX4_expectedDay 28 = .ok (.invokevirtual 95, 3) := by decide +kernel
theorem dX4_expectedDay_31 : decode cX4_expectedDay 31 = .ok (.iconst 1, 1) := by decide +kernel
theorem dX4_expectedDay_32 : decode cX4_expectedDay 32 = .ok (.if_icmp .ne 15, 3) := by decide +kernel
theorem dX4_expectedDay_35 : decode cX4_expectedDay 35 = .ok (.iload_n 3, 1) := by decide +kernel
theorem dX4_expectedDay_36 : decode cX4_expectedDay 36 = .ok (.aload_n 0, 1) := by decide +kernel
theorem dX4_expectedDay_37 : decode cX4_expectedDay 37 = .ok (.getfield 10, 3) := by decide +kernel
theorem dX4_expectedDay_40 : decode cX4_expectedDay 40 = .ok (.getfield 98, 3) := by decide +kernel
theorem dX4_expectedDay_43 : decode cX4_expectedDay 43 = .ok (.invokestatic 222, 3) := by decide +kernel
theorem dX4_expectedDay_46 : decode cX4_expectedDay 46 = .ok (.ireturn, 1) := by decide +kernel
theorem dX4_expectedDay_47 : decode cX4_expectedDay 47 = .ok (.aload_n 0, 1) := by decide +kernel
theorem dX4_expectedDay_48 : decode cX4_expectedDay 48 = .ok (.iload_n 1, 1) := by decide +kernel
theorem dX4_expectedDay_49 : decode cX4_expectedDay 49 = .ok (.invokevirtual 95, 3) := by decide +kernel
theorem dX4_expectedDay_52 : decode cX4_expectedDay 52 = .ok (.iconst 2, 1) := by decide +kernel
theorem dX4_expectedDay_53 : decode cX4_expectedDay 53 = .ok (.if_icmp .ne 24, 3) := by decide +kernel
theorem dX4_expectedDay_56 : decode cX4_expectedDay 56 = .ok (.aload_n 0, 1) := by decide +kernel
theorem dX4_expectedDay_57 : decode cX4_expectedDay 57 = .ok (.getfield 10, 3) := by decide +kernel
theorem dX4_expectedDay_60 : decode cX4_expectedDay 60 = .ok (.getfield 47, 3) := by decide +kernel
theorem dX4_expectedDay_63 : decode cX4_expectedDay 63 = .ok (.iload_n 1, 1) := by decide +kernel
theorem dX4_expectedDay_64 : decode cX4_expectedDay 64 = .ok (.iconst 5, 1) := by decide +kernel
theorem dX4_expectedDay_65 : decode cX4_expectedDay 65 = .ok (.invokevirtual 88, 3) := by decide +kernel
theorem dX4_expectedDay_68 : decode cX4_expectedDay 68 = .ok (.bipush (-2), 2) := by decide +kernel
theorem dX4_expectedDay_70 : decode cX4_expectedDay 70 = .ok (.if_icmp .ne 7, 3) := by decide +kernel
theorem dX4_expectedDay_73 : decode cX4_expectedDay 73 = .ok (.iload_n 3, 1) := by decide +kernel
theorem dX4_expectedDay_74 : decode cX4_expectedDay 74 = .ok (.goto 5, 3) := by decide +kernel
theorem dX4_expectedDay_77 : decode cX4_expectedDay 77 = .ok (.bipush (-2), 2) := by decide +kernel
theorem dX4_expectedDay_79 : decode cX4_expectedDay 79 = .ok (.ireturn, 1) := by decide +kernel
theorem dX4_expectedBefore_0 : decode cX4_expectedBefore 0 = .ok (.iconst 0, 1) := by decide +kernel
theorem dX4_expectedBefore_1 : decode cX4_expectedBefore 1 = .ok (.istore 4, 2) := by decide +kernel
theorem dX4_expectedBefore_3 : decode cX4_expectedBefore 3 = .ok (.iconst 0, 1) := by decide +kernel
theorem dX4_expectedBefore_4 : decode cX4_expectedBefore 4 = .ok (.istore 5, 2) := by decide +kernel
theorem dX4_expectedBefore_6 : decode cX4_expectedBefore 6 = .ok (.iload 5, 2) := by decide +kernel
theorem dX4_expectedBefore_8 : decode cX4_expectedBefore 8 = .ok (.aload_n 0, 1) := by decide +kernel
theorem dX4_expectedBefore_9 : decode cX4_expectedBefore 9 = .ok (.getfield 10, 3) := by decide +kernel
theorem dX4_expectedBefore_12 : decode cX4_expectedBefore 12 = .ok (.getfield 47, 3) := by decide +kernel
theorem dX4_expectedBefore_15 : decode cX4_expectedBefore 15 = .ok (.invokevirtual 92, 3) := by decide +kernel
theorem dX4_expectedBefore_18 : decode cX4_expectedBefore 18 = .ok (.if_icmp .ge 40, 3) := by decide +kernel
theorem dX4_expectedBefore_21 : decode cX4_expectedBefore 21 = .ok (.aload_n 0, 1) := by decide +kernel
theorem dX4_expectedBefore_22 : decode cX4_expectedBefore 22 = .ok (.iload 5, 2) := by decide +kernel
theorem dX4_expectedBefore_24 : decode cX4_expectedBefore 24 = .ok (.iload_n 3, 1) := by decide +kernel
theorem dX4_expectedBefore_25 : decode cX4_expectedBefore 25 = .ok (.invokevirtual 216, 3) := by decide +kernel
theorem dX4_expectedBefore_28 : decode cX4_expectedBefore 28 = .ok (.istore 6, 2) := by decide +kernel
theorem dX4_expectedBefore_30 : decode cX4_expectedBefore 30 = .ok (.iload 6, 2) := by decide +kernel
theorem dX4_expectedBefore_32 : decode cX4_expectedBefore 32 = .ok (.bipush (-2), 2) := by decide +kernel
theorem dX4_expectedBefore_34 : decode cX4_expectedBefore 34 = .ok (.if_icmp .eq 18, 3) := by decide +kernel
theorem dX4_expectedBefore_37 : decode cX4_expectedBefore 37 = .ok (.iload 6, 2) := by decide +kernel
theorem dX4_expectedBefore_39 : decode cX4_expectedBefore 39 = .ok (.iload 5, 2) := by decide +kernel
theorem dX4_expectedBefore_41 : decode cX4_expectedBefore 41 = .ok (.iload_n 1, 1) := by decide +kernel
theorem dX4_expectedBefore_42 : decode cX4_expectedBefore 42 = .ok (.iload_n 2, 1) := by decide +kernel
theorem dX4_expectedBefore_43 : decode cX4_expectedBefore 43 = .ok (.invokestatic 227, 3) := by decide +kernel
theorem dX4_expectedBefore_46 : decode cX4_expectedBefore 46 = .ok (.ifCond .eq 6, 3) := by decide +kernel
theorem dX4_expectedBefore_49 : decode cX4_expectedBefore 49 = .ok (.iinc 4 1, 3) := by decide +kernel
theorem dX4_expectedBefore_52 : decode cX4_expectedBefore 52 = .ok (.iinc 5 1, 3) := by decide +kernel
theorem dX4_expectedBefore_55 : decode cX4_expectedBefore 55 = .ok (.goto (-49), 3) := by decide +kernel
theorem dX4_expectedBefore_58 : decode cX4_expectedBefore 58 = .ok (.iload 4, 2) := by decide +kernel
theorem dX4_expectedBefore_60 : decode cX4_expectedBefore 60 = .ok (.ireturn, 1) := by decide +kernel
theorem dX4_patronCount_0 : decode cX4_patronCount 0 = .ok (.aload_n 0, 1) := by decide +kernel
theorem dX4_patronCount_1 : decode cX4_patronCount 1 = .ok (.getfield 10, 3) := by decide +kernel
theorem dX4_patronCount_4 : decode cX4_patronCount 4 = .ok (.getfield 69, 3) := by decide +kernel
theorem dX4_patronCount_7 : decode cX4_patronCount 7 = .ok (.invokevirtual 92, 3) := by decide +kernel
theorem dX4_patronCount_10 : decode cX4_patronCount 10 = .ok (.ireturn, 1) := by decide +kernel
theorem dX4_owes_0 : decode cX4_owes 0 = .ok (.aload_n 0, 1) := by decide +kernel
theorem dX4_owes_1 : decode cX4_owes 1 = .ok (.iload_n 1, 1) := by decide +kernel
theorem dX4_owes_2 : decode cX4_owes 2 = .ok (.invokevirtual 143, 3) := by decide +kernel
theorem dX4_owes_5 : decode cX4_owes 5 = .ok (.ifCond .eq 18, 3) := by decide +kernel
theorem dX4_owes_8 : decode cX4_owes 8 = .ok (.aload_n 0, 1) := by decide +kernel
theorem dX4_owes_9 : decode cX4_owes 9 = .ok (.getfield 10, 3) := by decide +kernel
theorem dX4_owes_12 : decode cX4_owes 12 = .ok (.getfield 69, 3) := by decide +kernel
theorem dX4_owes_15 : decode cX4_owes 15 = .ok (.iload_n 1, 1) := by decide +kernel
theorem dX4_owes_16 : decode cX4_owes 16 = .ok (.iconst 0, 1) := by decide +kernel
theorem dX4_owes_17 : decode cX4_owes 17 = .ok (.invokevirtual 88, 3) := by decide +kernel
theorem dX4_owes_20 : decode cX4_owes 20 = .ok (.goto 4, 3) := by decide +kernel
theorem dX4_owes_23 : decode cX4_owes 23 = .ok (.iconst (-1), 1) := by decide +kernel
theorem dX4_owes_24 : decode cX4_owes 24 = .ok (.ireturn, 1) := by decide +kernel
theorem dX4_accrued_0 : decode cX4_accrued 0 = .ok (.aload_n 0, 1) := by decide +kernel
theorem dX4_accrued_1 : decode cX4_accrued 1 = .ok (.iload_n 1, 1) := by decide +kernel
theorem dX4_accrued_2 : decode cX4_accrued 2 = .ok (.invokevirtual 143, 3) := by decide +kernel
theorem dX4_accrued_5 : decode cX4_accrued 5 = .ok (.ifCond .ne 5, 3) := by decide +kernel
theorem dX4_accrued_8 : decode cX4_accrued 8 = .ok (.iconst (-1), 1) := by decide +kernel
theorem dX4_accrued_9 : decode cX4_accrued 9 = .ok (.ireturn, 1) := by decide +kernel
theorem dX4_accrued_10 : decode cX4_accrued 10 = .ok (.iconst 0, 1) := by decide +kernel
theorem dX4_accrued_11 : decode cX4_accrued 11 = .ok (.istore_n 2, 1) := by decide +kernel
theorem dX4_accrued_12 : decode cX4_accrued 12 = .ok (.iconst 0, 1) := by decide +kernel
theorem dX4_accrued_13 : decode cX4_accrued 13 = .ok (.istore_n 3, 1) := by decide +kernel
theorem dX4_accrued_14 : decode cX4_accrued 14 = .ok (.iload_n 3, 1) := by decide +kernel
theorem dX4_accrued_15 : decode cX4_accrued 15 = .ok (.aload_n 0, 1) := by decide +kernel
theorem dX4_accrued_16 : decode cX4_accrued 16 = .ok (.getfield 10, 3) := by decide +kernel
theorem dX4_accrued_19 : decode cX4_accrued 19 = .ok (.getfield 47, 3) := by decide +kernel
theorem dX4_accrued_22 : decode cX4_accrued 22 = .ok (.invokevirtual 92, 3) := by decide +kernel
theorem dX4_accrued_25 : decode cX4_accrued 25 = .ok (.if_icmp .ge 27, 3) := by decide +kernel
theorem dX4_accrued_28 : decode cX4_accrued 28 = .ok (.aload_n 0, 1) := by decide +kernel
theorem dX4_accrued_29 : decode cX4_accrued 29 = .ok (.iload_n 3, 1) := by decide +kernel
theorem dX4_accrued_30 : decode cX4_accrued 30 = .ok (.iconst 1, 1) := by decide +kernel
theorem dX4_accrued_31 : decode cX4_accrued 31 = .ok (.iload_n 1, 1) := by decide +kernel
theorem dX4_accrued_32 : decode cX4_accrued 32 = .ok (.invokevirtual 231, 3) := by decide +kernel
theorem dX4_accrued_35 : decode cX4_accrued 35 = .ok (.ifCond .eq 11, 3) := by decide +kernel
theorem dX4_accrued_38 : decode cX4_accrued 38 = .ok (.iload_n 2, 1) := by decide +kernel
theorem dX4_accrued_39 : decode cX4_accrued 39 = .ok (.aload_n 0, 1) := by decide +kernel
theorem dX4_accrued_40 : decode cX4_accrued 40 = .ok (.iload_n 3, 1) := by decide +kernel
theorem dX4_accrued_41 : decode cX4_accrued 41 = .ok (.invokevirtual 161, 3) := by decide +kernel
theorem dX4_accrued_44 : decode cX4_accrued 44 = .ok (.iadd, 1) := by decide +kernel
theorem dX4_accrued_45 : decode cX4_accrued 45 = .ok (.istore_n 2, 1) := by decide +kernel
theorem dX4_accrued_46 : decode cX4_accrued 46 = .ok (.iinc 3 1, 3) := by decide +kernel
theorem dX4_accrued_49 : decode cX4_accrued 49 = .ok (.goto (-35), 3) := by decide +kernel
theorem dX4_accrued_52 : decode cX4_accrued 52 = .ok (.iload_n 2, 1) := by decide +kernel
theorem dX4_accrued_53 : decode cX4_accrued 53 = .ok (.ireturn, 1) := by decide +kernel
theorem dX4_patron_0 : decode cX4_patron 0 = .ok (.aload_n 0, 1) := by decide +kernel
theorem dX4_patron_1 : decode cX4_patron 1 = .ok (.iload_n 1, 1) := by decide +kernel
theorem dX4_patron_2 : decode cX4_patron 2 = .ok (.invokevirtual 143, 3) := by decide +kernel
theorem dX4_patron_5 : decode cX4_patron 5 = .ok (.ifCond .ne 5, 3) := by decide +kernel
theorem dX4_patron_8 : decode cX4_patron 8 = .ok (.iconst (-1), 1) := by decide +kernel
theorem dX4_patron_9 : decode cX4_patron 9 = .ok (.ireturn, 1) := by decide +kernel
theorem dX4_patron_10 : decode cX4_patron 10 = .ok (.iload_n 2, 1) := by decide +kernel
theorem dX4_patron_11 : decode cX4_patron 11 = .ok (.tableswitch 94 0 5 #[37, 43, 49, 62, 68, 81], 37) := by decide +kernel
theorem dX4_patron_48 : decode cX4_patron 48 = .ok (.aload_n 0, 1) := by decide +kernel
theorem dX4_patron_49 : decode cX4_patron 49 = .ok (.iload_n 1, 1) := by decide +kernel
theorem dX4_patron_50 : decode cX4_patron 50 = .ok (.invokevirtual 149, 3) := by decide +kernel
theorem dX4_patron_53 : decode cX4_patron 53 = .ok (.ireturn, 1) := by decide +kernel
theorem dX4_patron_54 : decode cX4_patron 54 = .ok (.aload_n 0, 1) := by decide +kernel
theorem dX4_patron_55 : decode cX4_patron 55 = .ok (.iload_n 1, 1) := by decide +kernel
theorem dX4_patron_56 : decode cX4_patron 56 = .ok (.invokevirtual 204, 3) := by decide +kernel
theorem dX4_patron_59 : decode cX4_patron 59 = .ok (.ireturn, 1) := by decide +kernel
theorem dX4_patron_60 : decode cX4_patron 60 = .ok (.aload_n 0, 1) := by decide +kernel
theorem dX4_patron_61 : decode cX4_patron 61 = .ok (.getfield 10, 3) := by decide +kernel
theorem dX4_patron_64 : decode cX4_patron 64 = .ok (.getfield 69, 3) := by decide +kernel
theorem dX4_patron_67 : decode cX4_patron 67 = .ok (.iload_n 1, 1) := by decide +kernel
theorem dX4_patron_68 : decode cX4_patron 68 = .ok (.iconst 1, 1) := by decide +kernel
theorem dX4_patron_69 : decode cX4_patron 69 = .ok (.invokevirtual 88, 3) := by decide +kernel
theorem dX4_patron_72 : decode cX4_patron 72 = .ok (.ireturn, 1) := by decide +kernel
theorem dX4_patron_73 : decode cX4_patron 73 = .ok (.aload_n 0, 1) := by decide +kernel
theorem dX4_patron_74 : decode cX4_patron 74 = .ok (.iload_n 1, 1) := by decide +kernel
theorem dX4_patron_75 : decode cX4_patron 75 = .ok (.invokevirtual 235, 3) := by decide +kernel
theorem dX4_patron_78 : decode cX4_patron 78 = .ok (.ireturn, 1) := by decide +kernel
theorem dX4_patron_79 : decode cX4_patron 79 = .ok (.aload_n 0, 1) := by decide +kernel
theorem dX4_patron_80 : decode cX4_patron 80 = .ok (.getfield 10, 3) := by decide +kernel
theorem dX4_patron_83 : decode cX4_patron 83 = .ok (.getfield 69, 3) := by decide +kernel
theorem dX4_patron_86 : decode cX4_patron 86 = .ok (.iload_n 1, 1) := by decide +kernel
theorem dX4_patron_87 : decode cX4_patron 87 = .ok (.iconst 2, 1) := by decide +kernel
theorem dX4_patron_88 : decode cX4_patron 88 = .ok (.invokevirtual 88, 3) := by decide +kernel
theorem dX4_patron_91 : decode cX4_patron 91 = .ok (.ireturn, 1) := by decide +kernel
theorem dX4_patron_92 : decode cX4_patron 92 = .ok (.aload_n 0, 1) := by decide +kernel
theorem dX4_patron_93 : decode cX4_patron 93 = .ok (.getfield 10, 3) := by decide +kernel
theorem dX4_patron_96 : decode cX4_patron 96 = .ok (.getfield 69, 3) := by decide +kernel
theorem dX4_patron_99 : decode cX4_patron 99 = .ok (.iload_n 1, 1) := by decide +kernel
theorem dX4_patron_100 : decode cX4_patron 100 = .ok (.iconst 3, 1) := by decide +kernel
theorem dX4_patron_101 : decode cX4_patron 101 = .ok (.invokevirtual 88, 3) := by decide +kernel
theorem dX4_patron_104 : decode cX4_patron 104 = .ok (.ireturn, 1) := by decide +kernel
theorem dX4_patron_105 : decode cX4_patron 105 = .ok (.iconst (-1), 1) := by decide +kernel
theorem dX4_patron_106 : decode cX4_patron 106 = .ok (.ireturn, 1) := by decide +kernel
theorem dX4_loanOf_0 : decode cX4_loanOf 0 = .ok (.aload_n 0, 1) := by decide +kernel
theorem dX4_loanOf_1 : decode cX4_loanOf 1 = .ok (.iload_n 1, 1) := by decide +kernel
theorem dX4_loanOf_2 : decode cX4_loanOf 2 = .ok (.invokevirtual 143, 3) := by decide +kernel
theorem dX4_loanOf_5 : decode cX4_loanOf 5 = .ok (.ifCond .eq 13, 3) := by decide +kernel
theorem dX4_loanOf_8 : decode cX4_loanOf 8 = .ok (.aload_n 0, 1) := by decide +kernel
theorem dX4_loanOf_9 : decode cX4_loanOf 9 = .ok (.iconst 1, 1) := by decide +kernel
theorem dX4_loanOf_10 : decode cX4_loanOf 10 = .ok (.iload_n 1, 1) := by decide +kernel
theorem dX4_loanOf_11 : decode cX4_loanOf 11 = .ok (.iload_n 2, 1) := by decide +kernel
theorem dX4_loanOf_12 : decode cX4_loanOf 12 = .ok (.invokevirtual 238, 3) := by decide +kernel
theorem dX4_loanOf_15 : decode cX4_loanOf 15 = .ok (.goto 4, 3) := by decide +kernel
theorem dX4_loanOf_18 : decode cX4_loanOf 18 = .ok (.iconst (-1), 1) := by decide +kernel
theorem dX4_loanOf_19 : decode cX4_loanOf 19 = .ok (.ireturn, 1) := by decide +kernel
theorem dX4_fine_0 : decode cX4_fine 0 = .ok (.aload_n 0, 1) := by decide +kernel
theorem dX4_fine_1 : decode cX4_fine 1 = .ok (.iload_n 1, 1) := by decide +kernel
theorem dX4_fine_2 : decode cX4_fine 2 = .ok (.invokevirtual 85, 3) := by decide +kernel
theorem dX4_fine_5 : decode cX4_fine 5 = .ok (.ifCond .ne 5, 3) := by decide +kernel
theorem dX4_fine_8 : decode cX4_fine 8 = .ok (.iconst (-1), 1) := by decide +kernel
theorem dX4_fine_9 : decode cX4_fine 9 = .ok (.ireturn, 1) := by decide +kernel
theorem dX4_fine_10 : decode cX4_fine 10 = .ok (.aload_n 0, 1) := by decide +kernel
theorem dX4_fine_11 : decode cX4_fine 11 = .ok (.iload_n 1, 1) := by decide +kernel
theorem dX4_fine_12 : decode cX4_fine 12 = .ok (.invokevirtual 158, 3) := by decide +kernel
theorem dX4_fine_15 : decode cX4_fine 15 = .ok (.ifCond .eq 11, 3) := by decide +kernel
theorem dX4_fine_18 : decode cX4_fine 18 = .ok (.aload_n 0, 1) := by decide +kernel
theorem dX4_fine_19 : decode cX4_fine 19 = .ok (.iload_n 1, 1) := by decide +kernel
theorem dX4_fine_20 : decode cX4_fine 20 = .ok (.invokevirtual 161, 3) := by decide +kernel
theorem dX4_fine_23 : decode cX4_fine 23 = .ok (.goto 5, 3) := by decide +kernel
theorem dX4_fine_26 : decode cX4_fine 26 = .ok (.bipush (-2), 2) := by decide +kernel
theorem dX4_fine_28 : decode cX4_fine 28 = .ok (.ireturn, 1) := by decide +kernel
theorem dX4_pay_0 : decode cX4_pay 0 = .ok (.aload_n 0, 1) := by decide +kernel
theorem dX4_pay_1 : decode cX4_pay 1 = .ok (.aload_n 0, 1) := by decide +kernel
theorem dX4_pay_2 : decode cX4_pay 2 = .ok (.iconst 3, 1) := by decide +kernel
theorem dX4_pay_3 : decode cX4_pay 3 = .ok (.iload_n 1, 1) := by decide +kernel
theorem dX4_pay_4 : decode cX4_pay 4 = .ok (.iload_n 2, 1) := by decide +kernel
theorem dX4_pay_5 : decode cX4_pay 5 = .ok (.invokevirtual 241, 3) := by decide +kernel
theorem dX4_pay_8 : decode cX4_pay 8 = .ok (.invokevirtual 65, 3) := by decide +kernel
theorem dX4_pay_11 : decode cX4_pay 11 = .ok (.ireturn, 1) := by decide +kernel
theorem dX4_waive_0 : decode cX4_waive 0 = .ok (.aload_n 0, 1) := by decide +kernel
theorem dX4_waive_1 : decode cX4_waive 1 = .ok (.aload_n 0, 1) := by decide +kernel
theorem dX4_waive_2 : decode cX4_waive 2 = .ok (.iconst 4, 1) := by decide +kernel
theorem dX4_waive_3 : decode cX4_waive 3 = .ok (.iload_n 1, 1) := by decide +kernel
theorem dX4_waive_4 : decode cX4_waive 4 = .ok (.iload_n 2, 1) := by decide +kernel
theorem dX4_waive_5 : decode cX4_waive 5 = .ok (.invokevirtual 241, 3) := by decide +kernel
theorem dX4_waive_8 : decode cX4_waive 8 = .ok (.invokevirtual 65, 3) := by decide +kernel
theorem dX4_waive_11 : decode cX4_waive 11 = .ok (.ireturn, 1) := by decide +kernel
theorem dX4_credit_0 : decode cX4_credit 0 = .ok (.aload_n 0, 1) := by decide +kernel
theorem dX4_credit_1 : decode cX4_credit 1 = .ok (.iload_n 2, 1) := by decide +kernel
theorem dX4_credit_2 : decode cX4_credit 2 = .ok (.invokevirtual 143, 3) := by decide +kernel
theorem dX4_credit_5 : decode cX4_credit 5 = .ok (.ifCond .eq 24, 3) := by decide +kernel
theorem dX4_credit_8 : decode cX4_credit 8 = .ok (.iload_n 3, 1) := by decide +kernel
theorem dX4_credit_9 : decode cX4_credit 9 = .ok (.iconst 1, 1) := by decide +kernel
theorem dX4_credit_10 : decode cX4_credit 10 = .ok (.if_icmp .lt 19, 3) := by decide +kernel
theorem dX4_credit_13 : decode cX4_credit 13 = .ok (.iload_n 3, 1) := by decide +kernel
theorem dX4_credit_14 : decode cX4_credit 14 = .ok (.aload_n 0, 1) := by decide +kernel
theorem dX4_credit_15 : decode cX4_credit 15 = .ok (.getfield 10, 3) := by decide +kernel
theorem dX4_credit_18 : decode cX4_credit 18 = .ok (.getfield 69, 3) := by decide +kernel
theorem dX4_credit_21 : decode cX4_credit 21 = .ok (.iload_n 2, 1) := by decide +kernel
theorem dX4_credit_22 : decode cX4_credit 22 = .ok (.iconst 0, 1) := by decide +kernel
theorem dX4_credit_23 : decode cX4_credit 23 = .ok (.invokevirtual 88, 3) := by decide +kernel
theorem dX4_credit_26 : decode cX4_credit 26 = .ok (.if_icmp .le 5, 3) := by decide +kernel
theorem dX4_credit_29 : decode cX4_credit 29 = .ok (.iconst (-1), 1) := by decide +kernel
theorem dX4_credit_30 : decode cX4_credit 30 = .ok (.ireturn, 1) := by decide +kernel
theorem dX4_credit_31 : decode cX4_credit 31 = .ok (.aload_n 0, 1) := by decide +kernel
theorem dX4_credit_32 : decode cX4_credit 32 = .ok (.iload_n 1, 1) := by decide +kernel
theorem dX4_credit_33 : decode cX4_credit 33 = .ok (.iload_n 2, 1) := by decide +kernel
theorem dX4_credit_34 : decode cX4_credit 34 = .ok (.iload_n 3, 1) := by decide +kernel
theorem dX4_credit_35 : decode cX4_credit 35 = .ok (.ineg, 1) := by decide +kernel
theorem dX4_credit_36 : decode cX4_credit 36 = .ok (.iconst (-1), 1) := by decide +kernel
theorem dX4_credit_37 : decode cX4_credit 37 = .ok (.invokevirtual 164, 3) := by decide +kernel
theorem dX4_credit_40 : decode cX4_credit 40 = .ok (.aload_n 0, 1) := by decide +kernel
theorem dX4_credit_41 : decode cX4_credit 41 = .ok (.getfield 10, 3) := by decide +kernel
theorem dX4_credit_44 : decode cX4_credit 44 = .ok (.getfield 69, 3) := by decide +kernel
theorem dX4_credit_47 : decode cX4_credit 47 = .ok (.iload_n 2, 1) := by decide +kernel
theorem dX4_credit_48 : decode cX4_credit 48 = .ok (.iconst 0, 1) := by decide +kernel
theorem dX4_credit_49 : decode cX4_credit 49 = .ok (.invokevirtual 88, 3) := by decide +kernel
theorem dX4_credit_52 : decode cX4_credit 52 = .ok (.ireturn, 1) := by decide +kernel
theorem dX4_ledgerSize_0 : decode cX4_ledgerSize 0 = .ok (.aload_n 0, 1) := by decide +kernel
theorem dX4_ledgerSize_1 : decode cX4_ledgerSize 1 = .ok (.getfield 10, 3) := by decide +kernel
theorem dX4_ledgerSize_4 : decode cX4_ledgerSize 4 = .ok (.getfield 244, 3) := by decide +kernel
theorem dX4_ledgerSize_7 : decode cX4_ledgerSize 7 = .ok (.invokevirtual 92, 3) := by decide +kernel
theorem dX4_ledgerSize_10 : decode cX4_ledgerSize 10 = .ok (.ireturn, 1) := by decide +kernel
theorem dX4_ledger_0 : decode cX4_ledger 0 = .ok (.aload_n 0, 1) := by decide +kernel
theorem dX4_ledger_1 : decode cX4_ledger 1 = .ok (.getfield 10, 3) := by decide +kernel
theorem dX4_ledger_4 : decode cX4_ledger 4 = .ok (.getfield 244, 3) := by decide +kernel
theorem dX4_ledger_7 : decode cX4_ledger 7 = .ok (.iload_n 1, 1) := by decide +kernel
theorem dX4_ledger_8 : decode cX4_ledger 8 = .ok (.invokevirtual 75, 3) := by decide +kernel
theorem dX4_ledger_11 : decode cX4_ledger 11 = .ok (.ifCond .eq 12, 3) := by decide +kernel
theorem dX4_ledger_14 : decode cX4_ledger 14 = .ok (.iload_n 2, 1) := by decide +kernel
theorem dX4_ledger_15 : decode cX4_ledger 15 = .ok (.ifCond .lt 8, 3) := by decide +kernel
theorem dX4_ledger_18 : decode cX4_ledger 18 = .ok (.iload_n 2, 1) := by decide +kernel
theorem dX4_ledger_19 : decode cX4_ledger 19 = .ok (.iconst 5, 1) := by decide +kernel
theorem dX4_ledger_20 : decode cX4_ledger 20 = .ok (.if_icmp .lt 6, 3) := by decide +kernel
theorem dX4_ledger_23 : decode cX4_ledger 23 = .ok (.ldc 249, 2) := by decide +kernel
theorem dX4_ledger_25 : decode cX4_ledger 25 = .ok (.ireturn, 1) := by decide +kernel
theorem dX4_ledger_26 : decode cX4_ledger 26 = .ok (.aload_n 0, 1) := by decide +kernel
theorem dX4_ledger_27 : decode cX4_ledger 27 = .ok (.getfield 10, 3) := by decide +kernel
theorem dX4_ledger_30 : decode cX4_ledger 30 = .ok (.getfield 244, 3) := by decide +kernel
theorem dX4_ledger_33 : decode cX4_ledger 33 = .ok (.iload_n 1, 1) := by decide +kernel
theorem dX4_ledger_34 : decode cX4_ledger 34 = .ok (.iload_n 2, 1) := by decide +kernel
theorem dX4_ledger_35 : decode cX4_ledger 35 = .ok (.invokevirtual 88, 3) := by decide +kernel
theorem dX4_ledger_38 : decode cX4_ledger 38 = .ok (.ireturn, 1) := by decide +kernel
theorem dX4_ledgerSum_0 : decode cX4_ledgerSum 0 = .ok (.aload_n 0, 1) := by decide +kernel
theorem dX4_ledgerSum_1 : decode cX4_ledgerSum 1 = .ok (.iload_n 1, 1) := by decide +kernel
theorem dX4_ledgerSum_2 : decode cX4_ledgerSum 2 = .ok (.invokevirtual 143, 3) := by decide +kernel
theorem dX4_ledgerSum_5 : decode cX4_ledgerSum 5 = .ok (.ifCond .eq 13, 3) := by decide +kernel
theorem dX4_ledgerSum_8 : decode cX4_ledgerSum 8 = .ok (.iload_n 2, 1) := by decide +kernel
theorem dX4_ledgerSum_9 : decode cX4_ledgerSum 9 = .ok (.iconst (-1), 1) := by decide +kernel
theorem dX4_ledgerSum_10 : decode cX4_ledgerSum 10 = .ok (.if_icmp .lt 8, 3) := by decide +kernel
theorem dX4_ledgerSum_13 : decode cX4_ledgerSum 13 = .ok (.iload_n 2, 1) := by decide +kernel
theorem dX4_ledgerSum_14 : decode cX4_ledgerSum 14 = .ok (.iconst 5, 1) := by decide +kernel
theorem dX4_ledgerSum_15 : decode cX4_ledgerSum 15 = .ok (.if_icmp .lt 6, 3) := by decide +kernel
theorem dX4_ledgerSum_18 : decode cX4_ledgerSum 18 = .ok (.ldc 249, 2) := by decide +kernel
theorem dX4_ledgerSum_20 : decode cX4_ledgerSum 20 = .ok (.ireturn, 1) := by decide +kernel
theorem dX4_ledgerSum_21 : decode cX4_ledgerSum 21 = .ok (.iconst 0, 1) := by decide +kernel
theorem dX4_ledgerSum_22 : decode cX4_ledgerSum 22 = .ok (.istore_n 3, 1) := by decide +kernel
theorem dX4_ledgerSum_23 : decode cX4_ledgerSum 23 = .ok (.iconst 0, 1) := by decide +kernel
theorem dX4_ledgerSum_24 : decode cX4_ledgerSum 24 = .ok (.istore 4, 2) := by decide +kernel
theorem dX4_ledgerSum_26 : decode cX4_ledgerSum 26 = .ok (.iload 4, 2) := by decide +kernel
theorem dX4_ledgerSum_28 : decode cX4_ledgerSum 28 = .ok (.aload_n 0, 1) := by decide +kernel
theorem dX4_ledgerSum_29 : decode cX4_ledgerSum 29 = .ok (.getfield 10, 3) := by decide +kernel
theorem dX4_ledgerSum_32 : decode cX4_ledgerSum 32 = .ok (.getfield 244, 3) := by decide +kernel
theorem dX4_ledgerSum_35 : decode cX4_ledgerSum 35 = .ok (.invokevirtual 92, 3) := by decide +kernel
theorem dX4_ledgerSum_38 : decode cX4_ledgerSum 38 = .ok (.if_icmp .ge 76, 3) := by decide +kernel
theorem dX4_ledgerSum_41 : decode cX4_ledgerSum 41 = .ok (.iload_n 2, 1) := by decide +kernel
theorem dX4_ledgerSum_42 : decode cX4_ledgerSum 42 = .ok (.iconst (-1), 1) := by decide +kernel
theorem dX4_ledgerSum_43 : decode cX4_ledgerSum 43 = .ok (.if_icmp .eq 20, 3) := by decide +kernel
theorem dX4_ledgerSum_46 : decode cX4_ledgerSum 46 = .ok (.aload_n 0, 1) := by decide +kernel
theorem dX4_ledgerSum_47 : decode cX4_ledgerSum 47 = .ok (.getfield 10, 3) := by decide +kernel
theorem dX4_ledgerSum_50 : decode cX4_ledgerSum 50 = .ok (.getfield 244, 3) := by decide +kernel
theorem dX4_ledgerSum_53 : decode cX4_ledgerSum 53 = .ok (.iload 4, 2) := by decide +kernel
theorem dX4_ledgerSum_55 : decode cX4_ledgerSum 55 = .ok (.iconst 0, 1) := by decide +kernel
theorem dX4_ledgerSum_56 : decode cX4_ledgerSum 56 = .ok (.invokevirtual 88, 3) := by decide +kernel
theorem dX4_ledgerSum_59 : decode cX4_ledgerSum 59 = .ok (.iload_n 2, 1) := by decide +kernel
theorem dX4_ledgerSum_60 : decode cX4_ledgerSum 60 = .ok (.if_icmp .ne 7, 3) := by decide +kernel
theorem dX4_ledgerSum_63 : decode cX4_ledgerSum 63 = .ok (.iconst 1, 1) := by decide +kernel
theorem dX4_ledgerSum_64 : decode cX4_ledgerSum 64 = .ok (.goto 4, 3) := by decide +kernel
theorem dX4_ledgerSum_67 : decode cX4_ledgerSum 67 = .ok (.iconst 0, 1) := by decide +kernel
theorem dX4_ledgerSum_68 : decode cX4_ledgerSum 68 = .ok (.istore 5, 2) := by decide +kernel
theorem dX4_ledgerSum_70 : decode cX4_ledgerSum 70 = .ok (.iload 5, 2) := by decide +kernel
theorem dX4_ledgerSum_72 : decode cX4_ledgerSum 72 = .ok (.ifCond .eq 36, 3) := by decide +kernel
theorem dX4_ledgerSum_75 : decode cX4_ledgerSum 75 = .ok (.aload_n 0, 1) := by decide +kernel
theorem dX4_ledgerSum_76 : decode cX4_ledgerSum 76 = .ok (.getfield 10, 3) := by decide +kernel
theorem dX4_ledgerSum_79 : decode cX4_ledgerSum 79 = .ok (.getfield 244, 3) := by decide +kernel
theorem dX4_ledgerSum_82 : decode cX4_ledgerSum 82 = .ok (.iload 4, 2) := by decide +kernel
theorem dX4_ledgerSum_84 : decode cX4_ledgerSum 84 = .ok (.iconst 1, 1) := by decide +kernel
theorem dX4_ledgerSum_85 : decode cX4_ledgerSum 85 = .ok (.invokevirtual 88, 3) := by decide +kernel
theorem dX4_ledgerSum_88 : decode cX4_ledgerSum 88 = .ok (.iload_n 1, 1) := by decide +kernel
theorem dX4_ledgerSum_89 : decode cX4_ledgerSum 89 = .ok (.if_icmp .ne 19, 3) := by decide +kernel
theorem dX4_ledgerSum_92 : decode cX4_ledgerSum 92 = .ok (.iload_n 3, 1) := by decide +kernel
theorem dX4_ledgerSum_93 : decode cX4_ledgerSum 93 = .ok (.aload_n 0, 1) := by decide +kernel
theorem dX4_ledgerSum_94 : decode cX4_ledgerSum 94 = .ok (.getfield 10, 3) := by decide +kernel
theorem dX4_ledgerSum_97 : decode cX4_ledgerSum 97 = .ok (.getfield 244, 3) := by decide +kernel
theorem dX4_ledgerSum_100 : decode cX4_ledgerSum 100 = .ok (.iload 4, 2) := by decide +kernel
theorem dX4_ledgerSum_102 : decode cX4_ledgerSum 102 = .ok (.iconst 2, 1) := by decide +kernel
theorem dX4_ledgerSum_103 : decode cX4_ledgerSum 103 = .ok (.invokevirtual 88, 3) := by decide +kernel
theorem dX4_ledgerSum_106 : decode cX4_ledgerSum 106 = .ok (.iadd, 1) := by decide +kernel
theorem dX4_ledgerSum_107 : decode cX4_ledgerSum 107 = .ok (.istore_n 3, 1) := by decide +kernel
theorem dX4_ledgerSum_108 : decode cX4_ledgerSum 108 = .ok (.iinc 4 1, 3) := by decide +kernel
theorem dX4_ledgerSum_111 : decode cX4_ledgerSum 111 = .ok (.goto (-85), 3) := by decide +kernel
theorem dX4_ledgerSum_114 : decode cX4_ledgerSum 114 = .ok (.iload_n 3, 1) := by decide +kernel
theorem dX4_ledgerSum_115 : decode cX4_ledgerSum 115 = .ok (.ireturn, 1) := by decide +kernel
theorem dX4_shelf_0 : decode cX4_shelf 0 = .ok (.iload_n 1, 1) := by decide +kernel
theorem dX4_shelf_1 : decode cX4_shelf 1 = .ok (.invokestatic 44, 3) := by decide +kernel
theorem dX4_shelf_4 : decode cX4_shelf 4 = .ok (.ifCond .ne 5, 3) := by decide +kernel
theorem dX4_shelf_7 : decode cX4_shelf 7 = .ok (.iconst (-1), 1) := by decide +kernel
theorem dX4_shelf_8 : decode cX4_shelf 8 = .ok (.ireturn, 1) := by decide +kernel
theorem dX4_shelf_9 : decode cX4_shelf 9 = .ok (.iconst 0, 1) := by decide +kernel
theorem dX4_shelf_10 : decode cX4_shelf 10 = .ok (.istore_n 3, 1) := by decide +kernel
theorem dX4_shelf_11 : decode cX4_shelf 11 = .ok (.iconst 0, 1) := by decide +kernel
theorem dX4_shelf_12 : decode cX4_shelf 12 = .ok (.istore 4, 2) := by decide +kernel
theorem dX4_shelf_14 : decode cX4_shelf 14 = .ok (.iload 4, 2) := by decide +kernel
theorem dX4_shelf_16 : decode cX4_shelf 16 = .ok (.aload_n 0, 1) := by decide +kernel
theorem dX4_shelf_17 : decode cX4_shelf 17 = .ok (.getfield 10, 3) := by decide +kernel
theorem dX4_shelf_20 : decode cX4_shelf 20 = .ok (.getfield 47, 3) := by decide +kernel
theorem dX4_shelf_23 : decode cX4_shelf 23 = .ok (.invokevirtual 92, 3) := by decide +kernel
theorem dX4_shelf_26 : decode cX4_shelf 26 = .ok (.if_icmp .ge 45, 3) := by decide +kernel
theorem dX4_shelf_29 : decode cX4_shelf 29 = .ok (.aload_n 0, 1) := by decide +kernel
theorem dX4_shelf_30 : decode cX4_shelf 30 = .ok (.iload 4, 2) := by decide +kernel
theorem dX4_shelf_32 : decode cX4_shelf 32 = .ok (.iconst 0, 1) := by decide +kernel
theorem dX4_shelf_33 : decode cX4_shelf 33 = .ok (.iload_n 1, 1) := by decide +kernel
theorem dX4_shelf_34 : decode cX4_shelf 34 = .ok (.invokevirtual 231, 3) := by decide +kernel
theorem dX4_shelf_37 : decode cX4_shelf 37 = .ok (.ifCond .ne 17, 3) := by decide +kernel
theorem dX4_shelf_40 : decode cX4_shelf 40 = .ok (.aload_n 0, 1) := by decide +kernel
theorem dX4_shelf_41 : decode cX4_shelf 41 = .ok (.iload 4, 2) := by decide +kernel
theorem dX4_shelf_43 : decode cX4_shelf 43 = .ok (.iconst 3, 1) := by decide +kernel
theorem dX4_shelf_44 : decode cX4_shelf 44 = .ok (.iload_n 1, 1) := by decide +kernel
theorem dX4_shelf_45 : decode cX4_shelf 45 = .ok (.invokevirtual 231, 3) := by decide +kernel
theorem dX4_shelf_48 : decode cX4_shelf 48 = .ok (.ifCond .ne 6, 3) := by decide +kernel
theorem dX4_shelf_51 : decode cX4_shelf 51 = .ok (.goto 14, 3) := by decide +kernel
theorem dX4_shelf_54 : decode cX4_shelf 54 = .ok (.iload_n 3, 1) := by decide +kernel
theorem dX4_shelf_55 : decode cX4_shelf 55 = .ok (.iload_n 2, 1) := by decide +kernel
theorem dX4_shelf_56 : decode cX4_shelf 56 = .ok (.if_icmp .ne 6, 3) := by decide +kernel
theorem dX4_shelf_59 : decode cX4_shelf 59 = .ok (.iload 4, 2) := by decide +kernel
theorem dX4_shelf_61 : decode cX4_shelf 61 = .ok (.ireturn, 1) := by decide +kernel
theorem dX4_shelf_62 : decode cX4_shelf 62 = .ok (.iinc 3 1, 3) := by decide +kernel
theorem dX4_shelf_65 : decode cX4_shelf 65 = .ok (.iinc 4 1, 3) := by decide +kernel
theorem dX4_shelf_68 : decode cX4_shelf 68 = .ok (.goto (-54), 3) := by decide +kernel
theorem dX4_shelf_71 : decode cX4_shelf 71 = .ok (.iload_n 2, 1) := by decide +kernel
theorem dX4_shelf_72 : decode cX4_shelf 72 = .ok (.iconst (-1), 1) := by decide +kernel
theorem dX4_shelf_73 : decode cX4_shelf 73 = .ok (.if_icmp .ne 7, 3) := by decide +kernel
theorem dX4_shelf_76 : decode cX4_shelf 76 = .ok (.iload_n 3, 1) := by decide +kernel
theorem dX4_shelf_77 : decode cX4_shelf 77 = .ok (.goto 5, 3) := by decide +kernel
theorem dX4_shelf_80 : decode cX4_shelf 80 = .ok (.bipush (-2), 2) := by decide +kernel
theorem dX4_shelf_82 : decode cX4_shelf 82 = .ok (.ireturn, 1) := by decide +kernel
theorem dX4_arriving_0 : decode cX4_arriving 0 = .ok (.iload_n 1, 1) := by decide +kernel
theorem dX4_arriving_1 : decode cX4_arriving 1 = .ok (.invokestatic 44, 3) := by decide +kernel
theorem dX4_arriving_4 : decode cX4_arriving 4 = .ok (.ifCond .eq 13, 3) := by decide +kernel
theorem dX4_arriving_7 : decode cX4_arriving 7 = .ok (.aload_n 0, 1) := by decide +kernel
theorem dX4_arriving_8 : decode cX4_arriving 8 = .ok (.iconst 2, 1) := by decide +kernel
theorem dX4_arriving_9 : decode cX4_arriving 9 = .ok (.iload_n 1, 1) := by decide +kernel
theorem dX4_arriving_10 : decode cX4_arriving 10 = .ok (.iload_n 2, 1) := by decide +kernel
theorem dX4_arriving_11 : decode cX4_arriving 11 = .ok (.invokevirtual 238, 3) := by decide +kernel
theorem dX4_arriving_14 : decode cX4_arriving 14 = .ok (.goto 4, 3) := by decide +kernel
theorem dX4_arriving_17 : decode cX4_arriving 17 = .ok (.iconst (-1), 1) := by decide +kernel
theorem dX4_arriving_18 : decode cX4_arriving 18 = .ok (.ireturn, 1) := by decide +kernel
theorem dX4_feed_0 : decode cX4_feed 0 = .ok (.iload_n 1, 1) := by decide +kernel
theorem dX4_feed_1 : decode cX4_feed 1 = .ok (.bipush 32, 2) := by decide +kernel
theorem dX4_feed_3 : decode cX4_feed 3 = .ok (.if_icmp .lt 9, 3) := by decide +kernel
theorem dX4_feed_6 : decode cX4_feed 6 = .ok (.iload_n 1, 1) := by decide +kernel
theorem dX4_feed_7 : decode cX4_feed 7 = .ok (.bipush 126, 2) := by decide +kernel
theorem dX4_feed_9 : decode cX4_feed 9 = .ok (.if_icmp .le 5, 3) := by decide +kernel
theorem dX4_feed_12 : decode cX4_feed 12 = .ok (.iconst (-1), 1) := by decide +kernel
theorem dX4_feed_13 : decode cX4_feed 13 = .ok (.ireturn, 1) := by decide +kernel
theorem dX4_feed_14 : decode cX4_feed 14 = .ok (.aload_n 0, 1) := by decide +kernel
theorem dX4_feed_15 : decode cX4_feed 15 = .ok (.getfield 36, 3) := by decide +kernel
theorem dX4_feed_18 : decode cX4_feed 18 = .ok (.iload_n 1, 1) := by decide +kernel
theorem dX4_feed_19 : decode cX4_feed 19 = .ok (.invokevirtual 250, 3) := by decide +kernel
theorem dX4_feed_22 : decode cX4_feed 22 = .ok (.ireturn, 1) := by decide +kernel
theorem dX4_execute_0 : decode cX4_execute 0 = .ok (.aload_n 0, 1) := by decide +kernel
theorem dX4_execute_1 : decode cX4_execute 1 = .ok (.getfield 36, 3) := by decide +kernel
theorem dX4_execute_4 : decode cX4_execute 4 = .ok (.invokevirtual 253, 3) := by decide +kernel
theorem dX4_execute_7 : decode cX4_execute 7 = .ok (.istore_n 1, 1) := by decide +kernel
theorem dX4_execute_8 : decode cX4_execute 8 = .ok (.aload_n 0, 1) := by decide +kernel
theorem dX4_execute_9 : decode cX4_execute 9 = .ok (.getfield 36, 3) := by decide +kernel
theorem dX4_execute_12 : decode cX4_execute 12 = .ok (.invokevirtual 257, 3) := by decide +kernel
theorem dX4_execute_15 : decode cX4_execute 15 = .ok (.iload_n 1, 1) := by decide +kernel
theorem dX4_execute_16 : decode cX4_execute 16 = .ok (.ifCond .ne 15, 3) := by decide +kernel
theorem dX4_execute_19 : decode cX4_execute 19 = .ok (.sipush (-200), 3) := by decide +kernel
theorem dX4_execute_22 : decode cX4_execute 22 = .ok (.aload_n 0, 1) := by decide +kernel
theorem dX4_execute_23 : decode cX4_execute 23 = .ok (.getfield 36, 3) := by decide +kernel
theorem dX4_execute_26 : decode cX4_execute 26 = .ok (.invokevirtual 260, 3) := by decide +kernel
theorem dX4_execute_29 : decode cX4_execute 29 = .ok (.isub, 1) := by decide +kernel
theorem dX4_execute_30 : decode cX4_execute 30 = .ok (.ireturn, 1) := by decide +kernel
theorem dX4_execute_31 : decode cX4_execute 31 = .ok (.aload_n 0, 1) := by decide +kernel
theorem dX4_execute_32 : decode cX4_execute 32 = .ok (.getfield 36, 3) := by decide +kernel
theorem dX4_execute_35 : decode cX4_execute 35 = .ok (.invokevirtual 263, 3) := by decide +kernel
theorem dX4_execute_38 : decode cX4_execute 38 = .ok (.istore_n 2, 1) := by decide +kernel
theorem dX4_execute_39 : decode cX4_execute 39 = .ok (.iconst 0, 1) := by decide +kernel
theorem dX4_execute_40 : decode cX4_execute 40 = .ok (.istore_n 3, 1) := by decide +kernel
theorem dX4_execute_41 : decode cX4_execute 41 = .ok (.iload_n 3, 1) := by decide +kernel
theorem dX4_execute_42 : decode cX4_execute 42 = .ok (.iload_n 2, 1) := by decide +kernel
theorem dX4_execute_43 : decode cX4_execute 43 = .ok (.if_icmp .ge 34, 3) := by decide +kernel
theorem dX4_execute_46 : decode cX4_execute 46 = .ok (.aload_n 0, 1) := by decide +kernel
theorem dX4_execute_47 : decode cX4_execute 47 = .ok (.iload_n 3, 1) := by decide +kernel
theorem dX4_execute_48 : decode cX4_execute 48 = .ok (.invokevirtual 266, 3) := by decide +kernel
theorem dX4_execute_51 : decode cX4_execute 51 = .ok (.ifCond .ge 20, 3) := by decide +kernel
theorem dX4_execute_54 : decode cX4_execute 54 = .ok (.aload_n 0, 1) := by decide +kernel
theorem dX4_execute_55 : decode cX4_execute 55 = .ok (.getfield 10, 3) := by decide +kernel
theorem dX4_execute_58 : decode cX4_execute 58 = .ok (.aload_n 0, 1) := by decide +kernel
theorem dX4_execute_59 : decode cX4_execute 59 = .ok (.getfield 16, 3) := by decide +kernel
theorem dX4_execute_62 : decode cX4_execute 62 = .ok (.invokevirtual 269, 3) := by decide +kernel
theorem dX4_execute_65 : decode cX4_execute 65 = .ok (.sipush (-300), 3) := by decide +kernel
theorem dX4_execute_68 : decode cX4_execute 68 = .ok (.iload_n 3, 1) := by decide +kernel
theorem dX4_execute_69 : decode cX4_execute 69 = .ok (.isub, 1) := by decide +kernel
theorem dX4_execute_70 : decode cX4_execute 70 = .ok (.ireturn, 1) := by decide +kernel
theorem dX4_execute_71 : decode cX4_execute 71 = .ok (.iinc 3 1, 3) := by decide +kernel
theorem dX4_execute_74 : decode cX4_execute 74 = .ok (.goto (-33), 3) := by decide +kernel
theorem dX4_execute_77 : decode cX4_execute 77 = .ok (.aload_n 0, 1) := by decide +kernel
theorem dX4_execute_78 : decode cX4_execute 78 = .ok (.iload_n 2, 1) := by decide +kernel
theorem dX4_execute_79 : decode cX4_execute 79 = .ok (.invokevirtual 65, 3) := by decide +kernel
theorem dX4_execute_82 : decode cX4_execute 82 = .ok (.ireturn, 1) := by decide +kernel
theorem dX4_runCommand_0 : decode cX4_runCommand 0 = .ok (.aload_n 0, 1) := by decide +kernel
theorem dX4_runCommand_1 : decode cX4_runCommand 1 = .ok (.getfield 36, 3) := by decide +kernel
theorem dX4_runCommand_4 : decode cX4_runCommand 4 = .ok (.iload_n 1, 1) := by decide +kernel
theorem dX4_runCommand_5 : decode cX4_runCommand 5 = .ok (.iconst 0, 1) := by decide +kernel
theorem dX4_runCommand_6 : decode cX4_runCommand 6 = .ok (.invokevirtual 273, 3) := by decide +kernel
theorem dX4_runCommand_9 : decode cX4_runCommand 9 = .ok (.istore_n 2, 1) := by decide +kernel
theorem dX4_runCommand_10 : decode cX4_runCommand 10 = .ok (.aload_n 0, 1) := by decide +kernel
theorem dX4_runCommand_11 : decode cX4_runCommand 11 = .ok (.getfield 36, 3) := by decide +kernel
theorem dX4_runCommand_14 : decode cX4_runCommand 14 = .ok (.iload_n 1, 1) := by decide +kernel
theorem dX4_runCommand_15 : decode cX4_runCommand 15 = .ok (.iconst 1, 1) := by decide +kernel
theorem dX4_runCommand_16 : decode cX4_runCommand 16 = .ok (.invokevirtual 273, 3) := by decide +kernel
theorem dX4_runCommand_19 : decode cX4_runCommand 19 = .ok (.istore_n 3, 1) := by decide +kernel
theorem dX4_runCommand_20 : decode cX4_runCommand 20 = .ok (.aload_n 0, 1) := by decide +kernel
theorem dX4_runCommand_21 : decode cX4_runCommand 21 = .ok (.getfield 36, 3) := by decide +kernel
theorem dX4_runCommand_24 : decode cX4_runCommand 24 = .ok (.iload_n 1, 1) := by decide +kernel
theorem dX4_runCommand_25 : decode cX4_runCommand 25 = .ok (.invokevirtual 276, 3) := by decide +kernel
theorem dX4_runCommand_28 : decode cX4_runCommand 28 = .ok (.tableswitch 137 99 114 #[110, 123, 137, 137, 137, 94, 87, 137, 137, 137, 137, 137, 80, 129, 137, 117], 80) := by decide +kernel
theorem dX4_runCommand_108 : decode cX4_runCommand 108 = .ok (.aload_n 0, 1) := by decide +kernel
theorem dX4_runCommand_109 : decode cX4_runCommand 109 = .ok (.iload_n 2, 1) := by decide +kernel
theorem dX4_runCommand_110 : decode cX4_runCommand 110 = .ok (.iload_n 3, 1) := by decide +kernel
theorem dX4_runCommand_111 : decode cX4_runCommand 111 = .ok (.invokevirtual 131, 3) := by decide +kernel
theorem dX4_runCommand_114 : decode cX4_runCommand 114 = .ok (.ireturn, 1) := by decide +kernel
theorem dX4_runCommand_115 : decode cX4_runCommand 115 = .ok (.aload_n 0, 1) := by decide +kernel
theorem dX4_runCommand_116 : decode cX4_runCommand 116 = .ok (.iload_n 2, 1) := by decide +kernel
theorem dX4_runCommand_117 : decode cX4_runCommand 117 = .ok (.iload_n 3, 1) := by decide +kernel
theorem dX4_runCommand_118 : decode cX4_runCommand 118 = .ok (.invokevirtual 155, 3) := by decide +kernel
theorem dX4_runCommand_121 : decode cX4_runCommand 121 = .ok (.ireturn, 1) := by decide +kernel
theorem dX4_runCommand_122 : decode cX4_runCommand 122 = .ok (.aload_n 0, 1) := by decide +kernel
theorem dX4_runCommand_123 : decode cX4_runCommand 123 = .ok (.iload_n 2, 1) := by decide +kernel
theorem dX4_runCommand_124 : decode cX4_runCommand 124 = .ok (.iload_n 3, 1) := by decide +kernel
theorem dX4_runCommand_125 : decode cX4_runCommand 125 = .ok (.aload_n 0, 1) := by decide +kernel
theorem dX4_runCommand_126 : decode cX4_runCommand 126 = .ok (.getfield 36, 3) := by decide +kernel
theorem dX4_runCommand_129 : decode cX4_runCommand 129 = .ok (.iload_n 1, 1) := by decide +kernel
theorem dX4_runCommand_130 : decode cX4_runCommand 130 = .ok (.iconst 2, 1) := by decide +kernel
theorem dX4_runCommand_131 : decode cX4_runCommand 131 = .ok (.invokevirtual 273, 3) := by decide +kernel
theorem dX4_runCommand_134 : decode cX4_runCommand 134 = .ok (.invokevirtual 185, 3) := by decide +kernel
theorem dX4_runCommand_137 : decode cX4_runCommand 137 = .ok (.ireturn, 1) := by decide +kernel
theorem dX4_runCommand_138 : decode cX4_runCommand 138 = .ok (.aload_n 0, 1) := by decide +kernel
theorem dX4_runCommand_139 : decode cX4_runCommand 139 = .ok (.iload_n 2, 1) := by decide +kernel
theorem dX4_runCommand_140 : decode cX4_runCommand 140 = .ok (.iload_n 3, 1) := by decide +kernel
theorem dX4_runCommand_141 : decode cX4_runCommand 141 = .ok (.invokevirtual 210, 3) := by decide +kernel
theorem dX4_runCommand_144 : decode cX4_runCommand 144 = .ok (.ireturn, 1) := by decide +kernel
theorem dX4_runCommand_145 : decode cX4_runCommand 145 = .ok (.aload_n 0, 1) := by decide +kernel
theorem dX4_runCommand_146 : decode cX4_runCommand 146 = .ok (.iload_n 2, 1) := by decide +kernel
theorem dX4_runCommand_147 : decode cX4_runCommand 147 = .ok (.invokevirtual 167, 3) := by decide +kernel
theorem dX4_runCommand_150 : decode cX4_runCommand 150 = .ok (.ireturn, 1) := by decide +kernel
theorem dX4_runCommand_151 : decode cX4_runCommand 151 = .ok (.aload_n 0, 1) := by decide +kernel
theorem dX4_runCommand_152 : decode cX4_runCommand 152 = .ok (.iload_n 2, 1) := by decide +kernel
theorem dX4_runCommand_153 : decode cX4_runCommand 153 = .ok (.invokevirtual 102, 3) := by decide +kernel
theorem dX4_runCommand_156 : decode cX4_runCommand 156 = .ok (.ireturn, 1) := by decide +kernel
theorem dX4_runCommand_157 : decode cX4_runCommand 157 = .ok (.aload_n 0, 1) := by decide +kernel
theorem dX4_runCommand_158 : decode cX4_runCommand 158 = .ok (.iconst 3, 1) := by decide +kernel
theorem dX4_runCommand_159 : decode cX4_runCommand 159 = .ok (.iload_n 2, 1) := by decide +kernel
theorem dX4_runCommand_160 : decode cX4_runCommand 160 = .ok (.iload_n 3, 1) := by decide +kernel
theorem dX4_runCommand_161 : decode cX4_runCommand 161 = .ok (.invokevirtual 241, 3) := by decide +kernel
theorem dX4_runCommand_164 : decode cX4_runCommand 164 = .ok (.ireturn, 1) := by decide +kernel
theorem dX4_runCommand_165 : decode cX4_runCommand 165 = .ok (.iconst (-1), 1) := by decide +kernel
theorem dX4_runCommand_166 : decode cX4_runCommand 166 = .ok (.ireturn, 1) := by decide +kernel
theorem dX4_save_0 : decode cX4_save 0 = .ok (.aload_n 0, 1) := by decide +kernel
theorem dX4_save_1 : decode cX4_save 1 = .ok (.getfield 19, 3) := by decide +kernel
theorem dX4_save_4 : decode cX4_save 4 = .ok (.aload_n 0, 1) := by decide +kernel
theorem dX4_save_5 : decode cX4_save 5 = .ok (.getfield 10, 3) := by decide +kernel
theorem dX4_save_8 : decode cX4_save 8 = .ok (.invokevirtual 269, 3) := by decide +kernel
theorem dX4_save_11 : decode cX4_save 11 = .ok (.aload_n 0, 1) := by decide +kernel
theorem dX4_save_12 : decode cX4_save 12 = .ok (.iconst 1, 1) := by decide +kernel
theorem dX4_save_13 : decode cX4_save 13 = .ok (.putfield 22, 3) := by decide +kernel
theorem dX4_save_16 : decode cX4_save 16 = .ok (.aload_n 0, 1) := by decide +kernel
theorem dX4_save_17 : decode cX4_save 17 = .ok (.getfield 10, 3) := by decide +kernel
theorem dX4_save_20 : decode cX4_save 20 = .ok (.getfield 98, 3) := by decide +kernel
theorem dX4_save_23 : decode cX4_save 23 = .ok (.ireturn, 1) := by decide +kernel
theorem dX4_restore_0 : decode cX4_restore 0 = .ok (.aload_n 0, 1) := by decide +kernel
theorem dX4_restore_1 : decode cX4_restore 1 = .ok (.getfield 22, 3) := by decide +kernel
theorem dX4_restore_4 : decode cX4_restore 4 = .ok (.ifCond .ne 6, 3) := by decide +kernel
theorem dX4_restore_7 : decode cX4_restore 7 = .ok (.bipush (-2), 2) := by decide +kernel
theorem dX4_restore_9 : decode cX4_restore 9 = .ok (.ireturn, 1) := by decide +kernel
theorem dX4_restore_10 : decode cX4_restore 10 = .ok (.aload_n 0, 1) := by decide +kernel
theorem dX4_restore_11 : decode cX4_restore 11 = .ok (.getfield 10, 3) := by decide +kernel
theorem dX4_restore_14 : decode cX4_restore 14 = .ok (.aload_n 0, 1) := by decide +kernel
theorem dX4_restore_15 : decode cX4_restore 15 = .ok (.getfield 19, 3) := by decide +kernel
theorem dX4_restore_18 : decode cX4_restore 18 = .ok (.invokevirtual 269, 3) := by decide +kernel
theorem dX4_restore_21 : decode cX4_restore 21 = .ok (.aload_n 0, 1) := by decide +kernel
theorem dX4_restore_22 : decode cX4_restore 22 = .ok (.aload_n 0, 1) := by decide +kernel
theorem dX4_restore_23 : decode cX4_restore 23 = .ok (.getfield 10, 3) := by decide +kernel
theorem dX4_restore_26 : decode cX4_restore 26 = .ok (.getfield 98, 3) := by decide +kernel
theorem dX4_restore_29 : decode cX4_restore 29 = .ok (.invokevirtual 65, 3) := by decide +kernel
theorem dX4_restore_32 : decode cX4_restore 32 = .ok (.ireturn, 1) := by decide +kernel
theorem dX4_undo_0 : decode cX4_undo 0 = .ok (.aload_n 0, 1) := by decide +kernel
theorem dX4_undo_1 : decode cX4_undo 1 = .ok (.getfield 29, 3) := by decide +kernel
theorem dX4_undo_4 : decode cX4_undo 4 = .ok (.invokevirtual 279, 3) := by decide +kernel
theorem dX4_undo_7 : decode cX4_undo 7 = .ok (.ifCond .eq 6, 3) := by decide +kernel
theorem dX4_undo_10 : decode cX4_undo 10 = .ok (.bipush (-2), 2) := by decide +kernel
theorem dX4_undo_12 : decode cX4_undo 12 = .ok (.ireturn, 1) := by decide +kernel
theorem dX4_undo_13 : decode cX4_undo 13 = .ok (.aload_n 0, 1) := by decide +kernel
theorem dX4_undo_14 : decode cX4_undo 14 = .ok (.getfield 29, 3) := by decide +kernel
theorem dX4_undo_17 : decode cX4_undo 17 = .ok (.aload_n 0, 1) := by decide +kernel
theorem dX4_undo_18 : decode cX4_undo 18 = .ok (.getfield 10, 3) := by decide +kernel
theorem dX4_undo_21 : decode cX4_undo 21 = .ok (.invokevirtual 282, 3) := by decide +kernel
theorem dX4_undo_24 : decode cX4_undo 24 = .ok (.aload_n 0, 1) := by decide +kernel
theorem dX4_undo_25 : decode cX4_undo 25 = .ok (.getfield 16, 3) := by decide +kernel
theorem dX4_undo_28 : decode cX4_undo 28 = .ok (.aload_n 0, 1) := by decide +kernel
theorem dX4_undo_29 : decode cX4_undo 29 = .ok (.getfield 10, 3) := by decide +kernel
theorem dX4_undo_32 : decode cX4_undo 32 = .ok (.invokevirtual 269, 3) := by decide +kernel
theorem dX4_undo_35 : decode cX4_undo 35 = .ok (.aload_n 0, 1) := by decide +kernel
theorem dX4_undo_36 : decode cX4_undo 36 = .ok (.getfield 29, 3) := by decide +kernel
theorem dX4_undo_39 : decode cX4_undo 39 = .ok (.invokevirtual 285, 3) := by decide +kernel
theorem dX4_undo_42 : decode cX4_undo 42 = .ok (.ireturn, 1) := by decide +kernel
theorem dX4_settle_0 : decode cX4_settle 0 = .ok (.iload_n 1, 1) := by decide +kernel
theorem dX4_settle_1 : decode cX4_settle 1 = .ok (.ifCond .lt 7, 3) := by decide +kernel
theorem dX4_settle_4 : decode cX4_settle 4 = .ok (.aload_n 0, 1) := by decide +kernel
theorem dX4_settle_5 : decode cX4_settle 5 = .ok (.invokevirtual 182, 3) := by decide +kernel
theorem dX4_settle_8 : decode cX4_settle 8 = .ok (.iload_n 1, 1) := by decide +kernel
theorem dX4_settle_9 : decode cX4_settle 9 = .ok (.ireturn, 1) := by decide +kernel
theorem dX4_commit_0 : decode cX4_commit 0 = .ok (.aload_n 0, 1) := by decide +kernel
theorem dX4_commit_1 : decode cX4_commit 1 = .ok (.getfield 29, 3) := by decide +kernel
theorem dX4_commit_4 : decode cX4_commit 4 = .ok (.aload_n 0, 1) := by decide +kernel
theorem dX4_commit_5 : decode cX4_commit 5 = .ok (.getfield 16, 3) := by decide +kernel
theorem dX4_commit_8 : decode cX4_commit 8 = .ok (.invokevirtual 286, 3) := by decide +kernel
theorem dX4_commit_11 : decode cX4_commit 11 = .ok (.aload_n 0, 1) := by decide +kernel
theorem dX4_commit_12 : decode cX4_commit 12 = .ok (.getfield 16, 3) := by decide +kernel
theorem dX4_commit_15 : decode cX4_commit 15 = .ok (.aload_n 0, 1) := by decide +kernel
theorem dX4_commit_16 : decode cX4_commit 16 = .ok (.getfield 10, 3) := by decide +kernel
theorem dX4_commit_19 : decode cX4_commit 19 = .ok (.invokevirtual 269, 3) := by decide +kernel
theorem dX4_commit_22 : decode cX4_commit 22 = .ok (.return_, 1) := by decide +kernel
theorem dX4_refusal_0 : decode cX4_refusal 0 = .ok (.iload_n 0, 1) := by decide +kernel
theorem dX4_refusal_1 : decode cX4_refusal 1 = .ok (.ifCond .ge 7, 3) := by decide +kernel
theorem dX4_refusal_4 : decode cX4_refusal 4 = .ok (.iload_n 0, 1) := by decide +kernel
theorem dX4_refusal_5 : decode cX4_refusal 5 = .ok (.goto 7, 3) := by decide +kernel
theorem dX4_refusal_8 : decode cX4_refusal 8 = .ok (.bipush (-100), 2) := by decide +kernel
theorem dX4_refusal_10 : decode cX4_refusal 10 = .ok (.iload_n 0, 1) := by decide +kernel
theorem dX4_refusal_11 : decode cX4_refusal 11 = .ok (.isub, 1) := by decide +kernel
theorem dX4_refusal_12 : decode cX4_refusal 12 = .ok (.ireturn, 1) := by decide +kernel
theorem dX4_isBranch_0 : decode cX4_isBranch 0 = .ok (.iload_n 0, 1) := by decide +kernel
theorem dX4_isBranch_1 : decode cX4_isBranch 1 = .ok (.ifCond .lt 12, 3) := by decide +kernel
theorem dX4_isBranch_4 : decode cX4_isBranch 4 = .ok (.iload_n 0, 1) := by decide +kernel
theorem dX4_isBranch_5 : decode cX4_isBranch 5 = .ok (.iconst 4, 1) := by decide +kernel
theorem dX4_isBranch_6 : decode cX4_isBranch 6 = .ok (.if_icmp .ge 7, 3) := by decide +kernel
theorem dX4_isBranch_9 : decode cX4_isBranch 9 = .ok (.iconst 1, 1) := by decide +kernel
theorem dX4_isBranch_10 : decode cX4_isBranch 10 = .ok (.goto 4, 3) := by decide +kernel
theorem dX4_isBranch_13 : decode cX4_isBranch 13 = .ok (.iconst 0, 1) := by decide +kernel
theorem dX4_isBranch_14 : decode cX4_isBranch 14 = .ok (.ireturn, 1) := by decide +kernel
theorem dX4_isTitle_0 : decode cX4_isTitle 0 = .ok (.iload_n 0, 1) := by decide +kernel
theorem dX4_isTitle_1 : decode cX4_isTitle 1 = .ok (.ifCond .lt 13, 3) := by decide +kernel
theorem dX4_isTitle_4 : decode cX4_isTitle 4 = .ok (.iload_n 0, 1) := by decide +kernel
theorem dX4_isTitle_5 : decode cX4_isTitle 5 = .ok (.bipush 6, 2) := by decide +kernel
theorem dX4_isTitle_7 : decode cX4_isTitle 7 = .ok (.if_icmp .ge 7, 3) := by decide +kernel
theorem dX4_isTitle_10 : decode cX4_isTitle 10 = .ok (.iconst 1, 1) := by decide +kernel
theorem dX4_isTitle_11 : decode cX4_isTitle 11 = .ok (.goto 4, 3) := by decide +kernel
theorem dX4_isTitle_14 : decode cX4_isTitle 14 = .ok (.iconst 0, 1) := by decide +kernel
theorem dX4_isTitle_15 : decode cX4_isTitle 15 = .ok (.ireturn, 1) := by decide +kernel
theorem dX4_isCopy_0 : decode cX4_isCopy 0 = .ok (.aload_n 0, 1) := by decide +kernel
theorem dX4_isCopy_1 : decode cX4_isCopy 1 = .ok (.getfield 10, 3) := by decide +kernel
theorem dX4_isCopy_4 : decode cX4_isCopy 4 = .ok (.getfield 47, 3) := by decide +kernel
theorem dX4_isCopy_7 : decode cX4_isCopy 7 = .ok (.iload_n 1, 1) := by decide +kernel
theorem dX4_isCopy_8 : decode cX4_isCopy 8 = .ok (.invokevirtual 75, 3) := by decide +kernel
theorem dX4_isCopy_11 : decode cX4_isCopy 11 = .ok (.ireturn, 1) := by decide +kernel
theorem dX4_isPatron_0 : decode cX4_isPatron 0 = .ok (.aload_n 0, 1) := by decide +kernel
theorem dX4_isPatron_1 : decode cX4_isPatron 1 = .ok (.getfield 10, 3) := by decide +kernel
theorem dX4_isPatron_4 : decode cX4_isPatron 4 = .ok (.getfield 69, 3) := by decide +kernel
theorem dX4_isPatron_7 : decode cX4_isPatron 7 = .ok (.iload_n 1, 1) := by decide +kernel
theorem dX4_isPatron_8 : decode cX4_isPatron 8 = .ok (.invokevirtual 75, 3) := by decide +kernel
theorem dX4_isPatron_11 : decode cX4_isPatron 11 = .ok (.ireturn, 1) := by decide +kernel
theorem dX4_isInRange_0 : decode cX4_isInRange 0 = .ok (.iload_n 0, 1) := by decide +kernel
theorem dX4_isInRange_1 : decode cX4_isInRange 1 = .ok (.ifCond .lt 19, 3) := by decide +kernel
theorem dX4_isInRange_4 : decode cX4_isInRange 4 = .ok (.iload_n 0, 1) := by decide +kernel
theorem dX4_isInRange_5 : decode cX4_isInRange 5 = .ok (.getstatic 289, 3) := by decide +kernel
theorem dX4_isInRange_8 : decode cX4_isInRange 8 = .ok (.arraylength, 1) := by decide +kernel
theorem dX4_isInRange_9 : decode cX4_isInRange 9 = .ok (.if_icmp .ge 11, 3) := by decide +kernel
theorem dX4_isInRange_12 : decode cX4_isInRange 12 = .ok (.iload_n 0, 1) := by decide +kernel
theorem dX4_isInRange_13 : decode cX4_isInRange 13 = .ok (.getstatic 293, 3) := by decide +kernel
theorem dX4_isInRange_16 : decode cX4_isInRange 16 = .ok (.arraylength, 1) := by decide +kernel
theorem dX4_isInRange_17 : decode cX4_isInRange 17 = .ok (.if_icmp .lt 5, 3) := by decide +kernel
theorem dX4_isInRange_20 : decode cX4_isInRange 20 = .ok (.iconst 0, 1) := by decide +kernel
theorem dX4_isInRange_21 : decode cX4_isInRange 21 = .ok (.ireturn, 1) := by decide +kernel
theorem dX4_isInRange_22 : decode cX4_isInRange 22 = .ok (.iload_n 1, 1) := by decide +kernel
theorem dX4_isInRange_23 : decode cX4_isInRange 23 = .ok (.getstatic 289, 3) := by decide +kernel
theorem dX4_isInRange_26 : decode cX4_isInRange 26 = .ok (.iload_n 0, 1) := by decide +kernel
theorem dX4_isInRange_27 : decode cX4_isInRange 27 = .ok (.iaload, 1) := by decide +kernel
theorem dX4_isInRange_28 : decode cX4_isInRange 28 = .ok (.if_icmp .lt 16, 3) := by decide +kernel
theorem dX4_isInRange_31 : decode cX4_isInRange 31 = .ok (.iload_n 1, 1) := by decide +kernel
theorem dX4_isInRange_32 : decode cX4_isInRange 32 = .ok (.getstatic 293, 3) := by decide +kernel
theorem dX4_isInRange_35 : decode cX4_isInRange 35 = .ok (.iload_n 0, 1) := by decide +kernel
theorem dX4_isInRange_36 : decode cX4_isInRange 36 = .ok (.iaload, 1) := by decide +kernel
theorem dX4_isInRange_37 : decode cX4_isInRange 37 = .ok (.if_icmp .gt 7, 3) := by decide +kernel
theorem dX4_isInRange_40 : decode cX4_isInRange 40 = .ok (.iconst 1, 1) := by decide +kernel
theorem dX4_isInRange_41 : decode cX4_isInRange 41 = .ok (.goto 4, 3) := by decide +kernel
theorem dX4_isInRange_44 : decode cX4_isInRange 44 = .ok (.iconst 0, 1) := by decide +kernel
theorem dX4_isInRange_45 : decode cX4_isInRange 45 = .ok (.ireturn, 1) := by decide +kernel
theorem dX4_valueOf_0 : decode cX4_valueOf 0 = .ok (.aload_n 0, 1) := by decide +kernel
theorem dX4_valueOf_1 : decode cX4_valueOf 1 = .ok (.getfield 10, 3) := by decide +kernel
theorem dX4_valueOf_4 : decode cX4_valueOf 4 = .ok (.getfield 72, 3) := by decide +kernel
theorem dX4_valueOf_7 : decode cX4_valueOf 7 = .ok (.iload_n 1, 1) := by decide +kernel
theorem dX4_valueOf_8 : decode cX4_valueOf 8 = .ok (.iconst 0, 1) := by decide +kernel
theorem dX4_valueOf_9 : decode cX4_valueOf 9 = .ok (.invokevirtual 88, 3) := by decide +kernel
theorem dX4_valueOf_12 : decode cX4_valueOf 12 = .ok (.ireturn, 1) := by decide +kernel
theorem dX4_stateOf_0 : decode cX4_stateOf 0 = .ok (.aload_n 0, 1) := by decide +kernel
theorem dX4_stateOf_1 : decode cX4_stateOf 1 = .ok (.getfield 10, 3) := by decide +kernel
theorem dX4_stateOf_4 : decode cX4_stateOf 4 = .ok (.getfield 47, 3) := by decide +kernel
theorem dX4_stateOf_7 : decode cX4_stateOf 7 = .ok (.iload_n 1, 1) := by decide +kernel
theorem dX4_stateOf_8 : decode cX4_stateOf 8 = .ok (.iconst 3, 1) := by decide +kernel
theorem dX4_stateOf_9 : decode cX4_stateOf 9 = .ok (.invokevirtual 88, 3) := by decide +kernel
theorem dX4_stateOf_12 : decode cX4_stateOf 12 = .ok (.ireturn, 1) := by decide +kernel
theorem dX4_titleOf_0 : decode cX4_titleOf 0 = .ok (.aload_n 0, 1) := by decide +kernel
theorem dX4_titleOf_1 : decode cX4_titleOf 1 = .ok (.getfield 10, 3) := by decide +kernel
theorem dX4_titleOf_4 : decode cX4_titleOf 4 = .ok (.getfield 47, 3) := by decide +kernel
theorem dX4_titleOf_7 : decode cX4_titleOf 7 = .ok (.iload_n 1, 1) := by decide +kernel
theorem dX4_titleOf_8 : decode cX4_titleOf 8 = .ok (.iconst 0, 1) := by decide +kernel
theorem dX4_titleOf_9 : decode cX4_titleOf 9 = .ok (.invokevirtual 88, 3) := by decide +kernel
theorem dX4_titleOf_12 : decode cX4_titleOf 12 = .ok (.ireturn, 1) := by decide +kernel
theorem dX4_isAt_0 : decode cX4_isAt 0 = .ok (.aload_n 0, 1) := by decide +kernel
theorem dX4_isAt_1 : decode cX4_isAt 1 = .ok (.iload_n 1, 1) := by decide +kernel
theorem dX4_isAt_2 : decode cX4_isAt 2 = .ok (.invokevirtual 95, 3) := by decide +kernel
theorem dX4_isAt_5 : decode cX4_isAt 5 = .ok (.iload_n 2, 1) := by decide +kernel
theorem dX4_isAt_6 : decode cX4_isAt 6 = .ok (.if_icmp .ne 23, 3) := by decide +kernel
theorem dX4_isAt_9 : decode cX4_isAt 9 = .ok (.aload_n 0, 1) := by decide +kernel
theorem dX4_isAt_10 : decode cX4_isAt 10 = .ok (.getfield 10, 3) := by decide +kernel
theorem dX4_isAt_13 : decode cX4_isAt 13 = .ok (.getfield 47, 3) := by decide +kernel
theorem dX4_isAt_16 : decode cX4_isAt 16 = .ok (.iload_n 1, 1) := by decide +kernel
theorem dX4_isAt_17 : decode cX4_isAt 17 = .ok (.iconst 4, 1) := by decide +kernel
theorem dX4_isAt_18 : decode cX4_isAt 18 = .ok (.invokevirtual 88, 3) := by decide +kernel
theorem dX4_isAt_21 : decode cX4_isAt 21 = .ok (.iload_n 3, 1) := by decide +kernel
theorem dX4_isAt_22 : decode cX4_isAt 22 = .ok (.if_icmp .ne 7, 3) := by decide +kernel
theorem dX4_isAt_25 : decode cX4_isAt 25 = .ok (.iconst 1, 1) := by decide +kernel
theorem dX4_isAt_26 : decode cX4_isAt 26 = .ok (.goto 4, 3) := by decide +kernel
theorem dX4_isAt_29 : decode cX4_isAt 29 = .ok (.iconst 0, 1) := by decide +kernel
theorem dX4_isAt_30 : decode cX4_isAt 30 = .ok (.ireturn, 1) := by decide +kernel
theorem dX4_isWithPatron_0 : decode cX4_isWithPatron 0 = .ok (.aload_n 0, 1) := by decide +kernel
theorem dX4_isWithPatron_1 : decode cX4_isWithPatron 1 = .ok (.iload_n 1, 1) := by decide +kernel
theorem dX4_isWithPatron_2 : decode cX4_isWithPatron 2 = .ok (.invokevirtual 95, 3) := by decide +kernel
theorem dX4_isWithPatron_5 : decode cX4_isWithPatron 5 = .ok (.istore_n 2, 1) := by decide +kernel
theorem dX4_isWithPatron_6 : decode cX4_isWithPatron 6 = .ok (.iload_n 2, 1) := by decide +kernel
theorem dX4_isWithPatron_7 : decode cX4_isWithPatron 7 = .ok (.iconst 1, 1) := by decide +kernel
theorem dX4_isWithPatron_8 : decode cX4_isWithPatron 8 = .ok (.if_icmp .eq 13, 3) := by decide +kernel
theorem dX4_isWithPatron_11 : decode cX4_isWithPatron 11 = .ok (.iload_n 2, 1) := by decide +kernel
theorem dX4_isWithPatron_12 : decode cX4_isWithPatron 12 = .ok (.iconst 4, 1) := by decide +kernel
theorem dX4_isWithPatron_13 : decode cX4_isWithPatron 13 = .ok (.if_icmp .eq 8, 3) := by decide +kernel
theorem dX4_isWithPatron_16 : decode cX4_isWithPatron 16 = .ok (.iload_n 2, 1) := by decide +kernel
theorem dX4_isWithPatron_17 : decode cX4_isWithPatron 17 = .ok (.iconst 5, 1) := by decide +kernel
theorem dX4_isWithPatron_18 : decode cX4_isWithPatron 18 = .ok (.if_icmp .ne 7, 3) := by decide +kernel
theorem dX4_isWithPatron_21 : decode cX4_isWithPatron 21 = .ok (.iconst 1, 1) := by decide +kernel
theorem dX4_isWithPatron_22 : decode cX4_isWithPatron 22 = .ok (.goto 4, 3) := by decide +kernel
theorem dX4_isWithPatron_25 : decode cX4_isWithPatron 25 = .ok (.iconst 0, 1) := by decide +kernel
theorem dX4_isWithPatron_26 : decode cX4_isWithPatron 26 = .ok (.ireturn, 1) := by decide +kernel
theorem dX4_putCopy_0 : decode cX4_putCopy 0 = .ok (.aload_n 0, 1) := by decide +kernel
theorem dX4_putCopy_1 : decode cX4_putCopy 1 = .ok (.getfield 10, 3) := by decide +kernel
theorem dX4_putCopy_4 : decode cX4_putCopy 4 = .ok (.getfield 47, 3) := by decide +kernel
theorem dX4_putCopy_7 : decode cX4_putCopy 7 = .ok (.iload_n 1, 1) := by decide +kernel
theorem dX4_putCopy_8 : decode cX4_putCopy 8 = .ok (.iconst 3, 1) := by decide +kernel
theorem dX4_putCopy_9 : decode cX4_putCopy 9 = .ok (.iload_n 2, 1) := by decide +kernel
theorem dX4_putCopy_10 : decode cX4_putCopy 10 = .ok (.invokevirtual 57, 3) := by decide +kernel
theorem dX4_putCopy_13 : decode cX4_putCopy 13 = .ok (.aload_n 0, 1) := by decide +kernel
theorem dX4_putCopy_14 : decode cX4_putCopy 14 = .ok (.getfield 10, 3) := by decide +kernel
theorem dX4_putCopy_17 : decode cX4_putCopy 17 = .ok (.getfield 47, 3) := by decide +kernel
theorem dX4_putCopy_20 : decode cX4_putCopy 20 = .ok (.iload_n 1, 1) := by decide +kernel
theorem dX4_putCopy_21 : decode cX4_putCopy 21 = .ok (.iconst 4, 1) := by decide +kernel
theorem dX4_putCopy_22 : decode cX4_putCopy 22 = .ok (.iload_n 3, 1) := by decide +kernel
theorem dX4_putCopy_23 : decode cX4_putCopy 23 = .ok (.invokevirtual 57, 3) := by decide +kernel
theorem dX4_putCopy_26 : decode cX4_putCopy 26 = .ok (.aload_n 0, 1) := by decide +kernel
theorem dX4_putCopy_27 : decode cX4_putCopy 27 = .ok (.getfield 10, 3) := by decide +kernel
theorem dX4_putCopy_30 : decode cX4_putCopy 30 = .ok (.getfield 47, 3) := by decide +kernel
theorem dX4_putCopy_33 : decode cX4_putCopy 33 = .ok (.iload_n 1, 1) := by decide +kernel
theorem dX4_putCopy_34 : decode cX4_putCopy 34 = .ok (.bipush 6, 2) := by decide +kernel
theorem dX4_putCopy_36 : decode cX4_putCopy 36 = .ok (.iload 4, 2) := by decide +kernel
theorem dX4_putCopy_38 : decode cX4_putCopy 38 = .ok (.invokevirtual 57, 3) := by decide +kernel
theorem dX4_putCopy_41 : decode cX4_putCopy 41 = .ok (.return_, 1) := by decide +kernel
theorem dX4_putLoan_0 : decode cX4_putLoan 0 = .ok (.aload_n 0, 1) := by decide +kernel
theorem dX4_putLoan_1 : decode cX4_putLoan 1 = .ok (.getfield 10, 3) := by decide +kernel
theorem dX4_putLoan_4 : decode cX4_putLoan 4 = .ok (.getfield 47, 3) := by decide +kernel
theorem dX4_putLoan_7 : decode cX4_putLoan 7 = .ok (.iload_n 1, 1) := by decide +kernel
theorem dX4_putLoan_8 : decode cX4_putLoan 8 = .ok (.bipush 7, 2) := by decide +kernel
theorem dX4_putLoan_10 : decode cX4_putLoan 10 = .ok (.iload_n 2, 1) := by decide +kernel
theorem dX4_putLoan_11 : decode cX4_putLoan 11 = .ok (.invokevirtual 57, 3) := by decide +kernel
theorem dX4_putLoan_14 : decode cX4_putLoan 14 = .ok (.aload_n 0, 1) := by decide +kernel
theorem dX4_putLoan_15 : decode cX4_putLoan 15 = .ok (.getfield 10, 3) := by decide +kernel
theorem dX4_putLoan_18 : decode cX4_putLoan 18 = .ok (.getfield 47, 3) := by decide +kernel
theorem dX4_putLoan_21 : decode cX4_putLoan 21 = .ok (.iload_n 1, 1) := by decide +kernel
theorem dX4_putLoan_22 : decode cX4_putLoan 22 = .ok (.bipush 8, 2) := by decide +kernel
theorem dX4_putLoan_24 : decode cX4_putLoan 24 = .ok (.iload_n 3, 1) := by decide +kernel
theorem dX4_putLoan_25 : decode cX4_putLoan 25 = .ok (.invokevirtual 57, 3) := by decide +kernel
theorem dX4_putLoan_28 : decode cX4_putLoan 28 = .ok (.aload_n 0, 1) := by decide +kernel
theorem dX4_putLoan_29 : decode cX4_putLoan 29 = .ok (.getfield 10, 3) := by decide +kernel
theorem dX4_putLoan_32 : decode cX4_putLoan 32 = .ok (.getfield 47, 3) := by decide +kernel
theorem dX4_putLoan_35 : decode cX4_putLoan 35 = .ok (.iload_n 1, 1) := by decide +kernel
theorem dX4_putLoan_36 : decode cX4_putLoan 36 = .ok (.bipush 9, 2) := by decide +kernel
theorem dX4_putLoan_38 : decode cX4_putLoan 38 = .ok (.iload 4, 2) := by decide +kernel
theorem dX4_putLoan_40 : decode cX4_putLoan 40 = .ok (.invokevirtual 57, 3) := by decide +kernel
theorem dX4_putLoan_43 : decode cX4_putLoan 43 = .ok (.return_, 1) := by decide +kernel
theorem dX4_becomeFree_0 : decode cX4_becomeFree 0 = .ok (.aload_n 0, 1) := by decide +kernel
theorem dX4_becomeFree_1 : decode cX4_becomeFree 1 = .ok (.aload_n 0, 1) := by decide +kernel
theorem dX4_becomeFree_2 : decode cX4_becomeFree 2 = .ok (.iload_n 1, 1) := by decide +kernel
theorem dX4_becomeFree_3 : decode cX4_becomeFree 3 = .ok (.invokevirtual 118, 3) := by decide +kernel
theorem dX4_becomeFree_6 : decode cX4_becomeFree 6 = .ok (.invokevirtual 173, 3) := by decide +kernel
theorem dX4_becomeFree_9 : decode cX4_becomeFree 9 = .ok (.istore_n 3, 1) := by decide +kernel
theorem dX4_becomeFree_10 : decode cX4_becomeFree 10 = .ok (.iload_n 2, 1) := by decide +kernel
theorem dX4_becomeFree_11 : decode cX4_becomeFree 11 = .ok (.istore 4, 2) := by decide +kernel
theorem dX4_becomeFree_13 : decode cX4_becomeFree 13 = .ok (.bipush (-2), 2) := by decide +kernel
theorem dX4_becomeFree_15 : decode cX4_becomeFree 15 = .ok (.istore 5, 2) := by decide +kernel
theorem dX4_becomeFree_17 : decode cX4_becomeFree 17 = .ok (.iload_n 3, 1) := by decide +kernel
theorem dX4_becomeFree_18 : decode cX4_becomeFree 18 = .ok (.bipush (-2), 2) := by decide +kernel
theorem dX4_becomeFree_20 : decode cX4_becomeFree 20 = .ok (.if_icmp .eq 47, 3) := by decide +kernel
theorem dX4_becomeFree_23 : decode cX4_becomeFree 23 = .ok (.aload_n 0, 1) := by decide +kernel
theorem dX4_becomeFree_24 : decode cX4_becomeFree 24 = .ok (.getfield 10, 3) := by decide +kernel
theorem dX4_becomeFree_27 : decode cX4_becomeFree 27 = .ok (.getfield 192, 3) := by decide +kernel
theorem dX4_becomeFree_30 : decode cX4_becomeFree 30 = .ok (.iload_n 3, 1) := by decide +kernel
theorem dX4_becomeFree_31 : decode cX4_becomeFree 31 = .ok (.iconst 2, 1) := by decide +kernel
theorem dX4_becomeFree_32 : decode cX4_becomeFree 32 = .ok (.iload_n 1, 1) := by decide +kernel
theorem dX4_becomeFree_33 : decode cX4_becomeFree 33 = .ok (.invokevirtual 57, 3) := by decide +kernel
theorem dX4_becomeFree_36 : decode cX4_becomeFree 36 = .ok (.aload_n 0, 1) := by decide +kernel
theorem dX4_becomeFree_37 : decode cX4_becomeFree 37 = .ok (.getfield 10, 3) := by decide +kernel
theorem dX4_becomeFree_40 : decode cX4_becomeFree 40 = .ok (.getfield 192, 3) := by decide +kernel
theorem dX4_becomeFree_43 : decode cX4_becomeFree 43 = .ok (.iload_n 3, 1) := by decide +kernel
theorem dX4_becomeFree_44 : decode cX4_becomeFree 44 = .ok (.iconst 1, 1) := by decide +kernel
theorem dX4_becomeFree_45 : decode cX4_becomeFree 45 = .ok (.invokevirtual 88, 3) := by decide +kernel
theorem dX4_becomeFree_48 : decode cX4_becomeFree 48 = .ok (.istore 4, 2) := by decide +kernel
theorem dX4_becomeFree_50 : decode cX4_becomeFree 50 = .ok (.aload_n 0, 1) := by decide +kernel
theorem dX4_becomeFree_51 : decode cX4_becomeFree 51 = .ok (.getfield 10, 3) := by decide +kernel
theorem dX4_becomeFree_54 : decode cX4_becomeFree 54 = .ok (.getfield 192, 3) := by decide +kernel
theorem dX4_becomeFree_57 : decode cX4_becomeFree 57 = .ok (.iload_n 3, 1) := by decide +kernel
theorem dX4_becomeFree_58 : decode cX4_becomeFree 58 = .ok (.iconst 0, 1) := by decide +kernel
theorem dX4_becomeFree_59 : decode cX4_becomeFree 59 = .ok (.invokevirtual 88, 3) := by decide +kernel
theorem dX4_becomeFree_62 : decode cX4_becomeFree 62 = .ok (.istore 5, 2) := by decide +kernel
theorem dX4_becomeFree_64 : decode cX4_becomeFree 64 = .ok (.goto 32, 3) := by decide +kernel
theorem dX4_becomeFree_67 : decode cX4_becomeFree 67 = .ok (.aload_n 0, 1) := by decide +kernel
theorem dX4_becomeFree_68 : decode cX4_becomeFree 68 = .ok (.getfield 10, 3) := by decide +kernel
theorem dX4_becomeFree_71 : decode cX4_becomeFree 71 = .ok (.getfield 47, 3) := by decide +kernel
theorem dX4_becomeFree_74 : decode cX4_becomeFree 74 = .ok (.iload_n 1, 1) := by decide +kernel
theorem dX4_becomeFree_75 : decode cX4_becomeFree 75 = .ok (.iconst 2, 1) := by decide +kernel
theorem dX4_becomeFree_76 : decode cX4_becomeFree 76 = .ok (.invokevirtual 88, 3) := by decide +kernel
theorem dX4_becomeFree_79 : decode cX4_becomeFree 79 = .ok (.ifCond .ne 17, 3) := by decide +kernel
theorem dX4_becomeFree_82 : decode cX4_becomeFree 82 = .ok (.aload_n 0, 1) := by decide +kernel
theorem dX4_becomeFree_83 : decode cX4_becomeFree 83 = .ok (.getfield 10, 3) := by decide +kernel
theorem dX4_becomeFree_86 : decode cX4_becomeFree 86 = .ok (.getfield 47, 3) := by decide +kernel
theorem dX4_becomeFree_89 : decode cX4_becomeFree 89 = .ok (.iload_n 1, 1) := by decide +kernel
theorem dX4_becomeFree_90 : decode cX4_becomeFree 90 = .ok (.iconst 1, 1) := by decide +kernel
theorem dX4_becomeFree_91 : decode cX4_becomeFree 91 = .ok (.invokevirtual 88, 3) := by decide +kernel
theorem dX4_becomeFree_94 : decode cX4_becomeFree 94 = .ok (.istore 4, 2) := by decide +kernel
theorem dX4_becomeFree_96 : decode cX4_becomeFree 96 = .ok (.aload_n 0, 1) := by decide +kernel
theorem dX4_becomeFree_97 : decode cX4_becomeFree 97 = .ok (.iload_n 1, 1) := by decide +kernel
theorem dX4_becomeFree_98 : decode cX4_becomeFree 98 = .ok (.bipush (-2), 2) := by decide +kernel
theorem dX4_becomeFree_100 : decode cX4_becomeFree 100 = .ok (.bipush (-2), 2) := by decide +kernel
theorem dX4_becomeFree_102 : decode cX4_becomeFree 102 = .ok (.bipush (-2), 2) := by decide +kernel
theorem dX4_becomeFree_104 : decode cX4_becomeFree 104 = .ok (.invokevirtual 140, 3) := by decide +kernel
theorem dX4_becomeFree_107 : decode cX4_becomeFree 107 = .ok (.aload_n 0, 1) := by decide +kernel
theorem dX4_becomeFree_108 : decode cX4_becomeFree 108 = .ok (.getfield 10, 3) := by decide +kernel
theorem dX4_becomeFree_111 : decode cX4_becomeFree 111 = .ok (.getfield 47, 3) := by decide +kernel
theorem dX4_becomeFree_114 : decode cX4_becomeFree 114 = .ok (.iload_n 1, 1) := by decide +kernel
theorem dX4_becomeFree_115 : decode cX4_becomeFree 115 = .ok (.iconst 5, 1) := by decide +kernel
theorem dX4_becomeFree_116 : decode cX4_becomeFree 116 = .ok (.iload 5, 2) := by decide +kernel
theorem dX4_becomeFree_118 : decode cX4_becomeFree 118 = .ok (.invokevirtual 57, 3) := by decide +kernel
theorem dX4_becomeFree_121 : decode cX4_becomeFree 121 = .ok (.iload 4, 2) := by decide +kernel
theorem dX4_becomeFree_123 : decode cX4_becomeFree 123 = .ok (.iload_n 2, 1) := by decide +kernel
theorem dX4_becomeFree_124 : decode cX4_becomeFree 124 = .ok (.if_icmp .eq 28, 3) := by decide +kernel
theorem dX4_becomeFree_127 : decode cX4_becomeFree 127 = .ok (.aload_n 0, 1) := by decide +kernel
theorem dX4_becomeFree_128 : decode cX4_becomeFree 128 = .ok (.iload_n 1, 1) := by decide +kernel
theorem dX4_becomeFree_129 : decode cX4_becomeFree 129 = .ok (.iconst 2, 1) := by decide +kernel
theorem dX4_becomeFree_130 : decode cX4_becomeFree 130 = .ok (.iload 4, 2) := by decide +kernel
theorem dX4_becomeFree_132 : decode cX4_becomeFree 132 = .ok (.aload_n 0, 1) := by decide +kernel
theorem dX4_becomeFree_133 : decode cX4_becomeFree 133 = .ok (.getfield 10, 3) := by decide +kernel
theorem dX4_becomeFree_136 : decode cX4_becomeFree 136 = .ok (.getfield 98, 3) := by decide +kernel
theorem dX4_becomeFree_139 : decode cX4_becomeFree 139 = .ok (.iload_n 2, 1) := by decide +kernel
theorem dX4_becomeFree_140 : decode cX4_becomeFree 140 = .ok (.iload 4, 2) := by decide +kernel
theorem dX4_becomeFree_142 : decode cX4_becomeFree 142 = .ok (.invokestatic 296, 3) := by decide +kernel
theorem dX4_becomeFree_145 : decode cX4_becomeFree 145 = .ok (.iadd, 1) := by decide +kernel
theorem dX4_becomeFree_146 : decode cX4_becomeFree 146 = .ok (.invokevirtual 114, 3) := by decide +kernel
theorem dX4_becomeFree_149 : decode cX4_becomeFree 149 = .ok (.goto 41, 3) := by decide +kernel
theorem dX4_becomeFree_152 : decode cX4_becomeFree 152 = .ok (.iload_n 3, 1) := by decide +kernel
theorem dX4_becomeFree_153 : decode cX4_becomeFree 153 = .ok (.bipush (-2), 2) := by decide +kernel
theorem dX4_becomeFree_155 : decode cX4_becomeFree 155 = .ok (.if_icmp .eq 26, 3) := by decide +kernel
theorem dX4_becomeFree_158 : decode cX4_becomeFree 158 = .ok (.aload_n 0, 1) := by decide +kernel
theorem dX4_becomeFree_159 : decode cX4_becomeFree 159 = .ok (.iload_n 1, 1) := by decide +kernel
theorem dX4_becomeFree_160 : decode cX4_becomeFree 160 = .ok (.iconst 3, 1) := by decide +kernel
theorem dX4_becomeFree_161 : decode cX4_becomeFree 161 = .ok (.iload_n 2, 1) := by decide +kernel
theorem dX4_becomeFree_162 : decode cX4_becomeFree 162 = .ok (.aload_n 0, 1) := by decide +kernel
theorem dX4_becomeFree_163 : decode cX4_becomeFree 163 = .ok (.getfield 10, 3) := by decide +kernel
theorem dX4_becomeFree_166 : decode cX4_becomeFree 166 = .ok (.getfield 98, 3) := by decide +kernel
theorem dX4_becomeFree_169 : decode cX4_becomeFree 169 = .ok (.aload_n 0, 1) := by decide +kernel
theorem dX4_becomeFree_170 : decode cX4_becomeFree 170 = .ok (.iconst 5, 1) := by decide +kernel
theorem dX4_becomeFree_171 : decode cX4_becomeFree 171 = .ok (.invokevirtual 82, 3) := by decide +kernel
theorem dX4_becomeFree_174 : decode cX4_becomeFree 174 = .ok (.iadd, 1) := by decide +kernel
theorem dX4_becomeFree_175 : decode cX4_becomeFree 175 = .ok (.invokevirtual 114, 3) := by decide +kernel
theorem dX4_becomeFree_178 : decode cX4_becomeFree 178 = .ok (.goto 12, 3) := by decide +kernel
theorem dX4_becomeFree_181 : decode cX4_becomeFree 181 = .ok (.aload_n 0, 1) := by decide +kernel
theorem dX4_becomeFree_182 : decode cX4_becomeFree 182 = .ok (.iload_n 1, 1) := by decide +kernel
theorem dX4_becomeFree_183 : decode cX4_becomeFree 183 = .ok (.iconst 0, 1) := by decide +kernel
theorem dX4_becomeFree_184 : decode cX4_becomeFree 184 = .ok (.iload_n 2, 1) := by decide +kernel
theorem dX4_becomeFree_185 : decode cX4_becomeFree 185 = .ok (.bipush (-2), 2) := by decide +kernel
theorem dX4_becomeFree_187 : decode cX4_becomeFree 187 = .ok (.invokevirtual 114, 3) := by decide +kernel
theorem dX4_becomeFree_190 : decode cX4_becomeFree 190 = .ok (.return_, 1) := by decide +kernel
theorem dX4_becomeLost_0 : decode cX4_becomeLost 0 = .ok (.aload_n 0, 1) := by decide +kernel
theorem dX4_becomeLost_1 : decode cX4_becomeLost 1 = .ok (.getfield 10, 3) := by decide +kernel
theorem dX4_becomeLost_4 : decode cX4_becomeLost 4 = .ok (.getfield 47, 3) := by decide +kernel
theorem dX4_becomeLost_7 : decode cX4_becomeLost 7 = .ok (.iload_n 1, 1) := by decide +kernel
theorem dX4_becomeLost_8 : decode cX4_becomeLost 8 = .ok (.iconst 4, 1) := by decide +kernel
theorem dX4_becomeLost_9 : decode cX4_becomeLost 9 = .ok (.invokevirtual 88, 3) := by decide +kernel
theorem dX4_becomeLost_12 : decode cX4_becomeLost 12 = .ok (.istore_n 2, 1) := by decide +kernel
theorem dX4_becomeLost_13 : decode cX4_becomeLost 13 = .ok (.aload_n 0, 1) := by decide +kernel
theorem dX4_becomeLost_14 : decode cX4_becomeLost 14 = .ok (.bipush 6, 2) := by decide +kernel
theorem dX4_becomeLost_16 : decode cX4_becomeLost 16 = .ok (.invokevirtual 82, 3) := by decide +kernel
theorem dX4_becomeLost_19 : decode cX4_becomeLost 19 = .ok (.istore_n 3, 1) := by decide +kernel
theorem dX4_becomeLost_20 : decode cX4_becomeLost 20 = .ok (.aload_n 0, 1) := by decide +kernel
theorem dX4_becomeLost_21 : decode cX4_becomeLost 21 = .ok (.getfield 10, 3) := by decide +kernel
theorem dX4_becomeLost_24 : decode cX4_becomeLost 24 = .ok (.getfield 47, 3) := by decide +kernel
theorem dX4_becomeLost_27 : decode cX4_becomeLost 27 = .ok (.iload_n 1, 1) := by decide +kernel
theorem dX4_becomeLost_28 : decode cX4_becomeLost 28 = .ok (.bipush 10, 2) := by decide +kernel
theorem dX4_becomeLost_30 : decode cX4_becomeLost 30 = .ok (.aload_n 0, 1) := by decide +kernel
theorem dX4_becomeLost_31 : decode cX4_becomeLost 31 = .ok (.iload_n 1, 1) := by decide +kernel
theorem dX4_becomeLost_32 : decode cX4_becomeLost 32 = .ok (.invokevirtual 161, 3) := by decide +kernel
theorem dX4_becomeLost_35 : decode cX4_becomeLost 35 = .ok (.invokevirtual 57, 3) := by decide +kernel
theorem dX4_becomeLost_38 : decode cX4_becomeLost 38 = .ok (.aload_n 0, 1) := by decide +kernel
theorem dX4_becomeLost_39 : decode cX4_becomeLost 39 = .ok (.getfield 10, 3) := by decide +kernel
theorem dX4_becomeLost_42 : decode cX4_becomeLost 42 = .ok (.getfield 47, 3) := by decide +kernel
theorem dX4_becomeLost_45 : decode cX4_becomeLost 45 = .ok (.iload_n 1, 1) := by decide +kernel
theorem dX4_becomeLost_46 : decode cX4_becomeLost 46 = .ok (.bipush 11, 2) := by decide +kernel
theorem dX4_becomeLost_48 : decode cX4_becomeLost 48 = .ok (.iload_n 3, 1) := by decide +kernel
theorem dX4_becomeLost_49 : decode cX4_becomeLost 49 = .ok (.invokevirtual 57, 3) := by decide +kernel
theorem dX4_becomeLost_52 : decode cX4_becomeLost 52 = .ok (.aload_n 0, 1) := by decide +kernel
theorem dX4_becomeLost_53 : decode cX4_becomeLost 53 = .ok (.iload_n 1, 1) := by decide +kernel
theorem dX4_becomeLost_54 : decode cX4_becomeLost 54 = .ok (.iconst 5, 1) := by decide +kernel
theorem dX4_becomeLost_55 : decode cX4_becomeLost 55 = .ok (.iload_n 2, 1) := by decide +kernel
theorem dX4_becomeLost_56 : decode cX4_becomeLost 56 = .ok (.bipush (-2), 2) := by decide +kernel
theorem dX4_becomeLost_58 : decode cX4_becomeLost 58 = .ok (.invokevirtual 114, 3) := by decide +kernel
theorem dX4_becomeLost_61 : decode cX4_becomeLost 61 = .ok (.aload_n 0, 1) := by decide +kernel
theorem dX4_becomeLost_62 : decode cX4_becomeLost 62 = .ok (.iconst 1, 1) := by decide +kernel
theorem dX4_becomeLost_63 : decode cX4_becomeLost 63 = .ok (.iload_n 2, 1) := by decide +kernel
theorem dX4_becomeLost_64 : decode cX4_becomeLost 64 = .ok (.iload_n 3, 1) := by decide +kernel
theorem dX4_becomeLost_65 : decode cX4_becomeLost 65 = .ok (.iload_n 1, 1) := by decide +kernel
theorem dX4_becomeLost_66 : decode cX4_becomeLost 66 = .ok (.invokevirtual 164, 3) := by decide +kernel
theorem dX4_becomeLost_69 : decode cX4_becomeLost 69 = .ok (.return_, 1) := by decide +kernel
theorem dX4_wayBetween_0 : decode cX4_wayBetween 0 = .ok (.iload_n 0, 1) := by decide +kernel
theorem dX4_wayBetween_1 : decode cX4_wayBetween 1 = .ok (.iload_n 1, 1) := by decide +kernel
theorem dX4_wayBetween_2 : decode cX4_wayBetween 2 = .ok (.isub, 1) := by decide +kernel
theorem dX4_wayBetween_3 : decode cX4_wayBetween 3 = .ok (.invokestatic 299, 3) := by decide +kernel
theorem dX4_wayBetween_6 : decode cX4_wayBetween 6 = .ok (.ireturn, 1) := by decide +kernel
theorem dX4_nearestOnShelf_0 : decode cX4_nearestOnShelf 0 = .ok (.bipush (-2), 2) := by decide +kernel
theorem dX4_nearestOnShelf_2 : decode cX4_nearestOnShelf 2 = .ok (.istore_n 3, 1) := by decide +kernel
theorem dX4_nearestOnShelf_3 : decode cX4_nearestOnShelf 3 = .ok (.iconst 4, 1) := by decide +kernel
theorem dX4_nearestOnShelf_4 : decode cX4_nearestOnShelf 4 = .ok (.istore 4, 2) := by decide +kernel
theorem dX4_nearestOnShelf_6 : decode cX4_nearestOnShelf 6 = .ok (.iconst 0, 1) := by decide +kernel
theorem dX4_nearestOnShelf_7 : decode cX4_nearestOnShelf 7 = .ok (.istore 5, 2) := by decide +kernel
theorem dX4_nearestOnShelf_9 : decode cX4_nearestOnShelf 9 = .ok (.iload 5, 2) := by decide +kernel
theorem dX4_nearestOnShelf_11 : decode cX4_nearestOnShelf 11 = .ok (.aload_n 0, 1) := by decide +kernel
theorem dX4_nearestOnShelf_12 : decode cX4_nearestOnShelf 12 = .ok (.getfield 10, 3) := by decide +kernel
theorem dX4_nearestOnShelf_15 : decode cX4_nearestOnShelf 15 = .ok (.getfield 47, 3) := by decide +kernel
theorem dX4_nearestOnShelf_18 : decode cX4_nearestOnShelf 18 = .ok (.invokevirtual 92, 3) := by decide +kernel
theorem dX4_nearestOnShelf_21 : decode cX4_nearestOnShelf 21 = .ok (.if_icmp .ge 64, 3) := by decide +kernel
theorem dX4_nearestOnShelf_24 : decode cX4_nearestOnShelf 24 = .ok (.aload_n 0, 1) := by decide +kernel
theorem dX4_nearestOnShelf_25 : decode cX4_nearestOnShelf 25 = .ok (.iload 5, 2) := by decide +kernel
theorem dX4_nearestOnShelf_27 : decode cX4_nearestOnShelf 27 = .ok (.invokevirtual 118, 3) := by decide +kernel
theorem dX4_nearestOnShelf_30 : decode cX4_nearestOnShelf 30 = .ok (.iload_n 1, 1) := by decide +kernel
theorem dX4_nearestOnShelf_31 : decode cX4_nearestOnShelf 31 = .ok (.if_icmp .ne 48, 3) := by decide +kernel
theorem dX4_nearestOnShelf_34 : decode cX4_nearestOnShelf 34 = .ok (.aload_n 0, 1) := by decide +kernel
theorem dX4_nearestOnShelf_35 : decode cX4_nearestOnShelf 35 = .ok (.iload 5, 2) := by decide +kernel
theorem dX4_nearestOnShelf_37 : decode cX4_nearestOnShelf 37 = .ok (.invokevirtual 95, 3) := by decide +kernel
theorem dX4_nearestOnShelf_40 : decode cX4_nearestOnShelf 40 = .ok (.ifCond .eq 6, 3) := by decide +kernel
theorem dX4_nearestOnShelf_43 : decode cX4_nearestOnShelf 43 = .ok (.goto 36, 3) := by decide +kernel
theorem dX4_nearestOnShelf_46 : decode cX4_nearestOnShelf 46 = .ok (.aload_n 0, 1) := by decide +kernel
theorem dX4_nearestOnShelf_47 : decode cX4_nearestOnShelf 47 = .ok (.getfield 10, 3) := by decide +kernel
theorem dX4_nearestOnShelf_50 : decode cX4_nearestOnShelf 50 = .ok (.getfield 47, 3) := by decide +kernel
theorem dX4_nearestOnShelf_53 : decode cX4_nearestOnShelf 53 = .ok (.iload 5, 2) := by decide +kernel
theorem dX4_nearestOnShelf_55 : decode cX4_nearestOnShelf 55 = .ok (.iconst 4, 1) := by decide +kernel
theorem dX4_nearestOnShelf_56 : decode cX4_nearestOnShelf 56 = .ok (.invokevirtual 88, 3) := by decide +kernel
theorem dX4_nearestOnShelf_59 : decode cX4_nearestOnShelf 59 = .ok (.iload_n 2, 1) := by decide +kernel
theorem dX4_nearestOnShelf_60 : decode cX4_nearestOnShelf 60 = .ok (.invokestatic 296, 3) := by decide +kernel
theorem dX4_nearestOnShelf_63 : decode cX4_nearestOnShelf 63 = .ok (.istore 6, 2) := by decide +kernel
theorem dX4_nearestOnShelf_65 : decode cX4_nearestOnShelf 65 = .ok (.iload 6, 2) := by decide +kernel
theorem dX4_nearestOnShelf_67 : decode cX4_nearestOnShelf 67 = .ok (.iload 4, 2) := by decide +kernel
theorem dX4_nearestOnShelf_69 : decode cX4_nearestOnShelf 69 = .ok (.if_icmp .ge 10, 3) := by decide +kernel
theorem dX4_nearestOnShelf_72 : decode cX4_nearestOnShelf 72 = .ok (.iload 5, 2) := by decide +kernel
theorem dX4_nearestOnShelf_74 : decode cX4_nearestOnShelf 74 = .ok (.istore_n 3, 1) := by decide +kernel
theorem dX4_nearestOnShelf_75 : decode cX4_nearestOnShelf 75 = .ok (.iload 6, 2) := by decide +kernel
theorem dX4_nearestOnShelf_77 : decode cX4_nearestOnShelf 77 = .ok (.istore 4, 2) := by decide +kernel
theorem dX4_nearestOnShelf_79 : decode cX4_nearestOnShelf 79 = .ok (.iinc 5 1, 3) := by decide +kernel
theorem dX4_nearestOnShelf_82 : decode cX4_nearestOnShelf 82 = .ok (.goto (-73), 3) := by decide +kernel
theorem dX4_nearestOnShelf_85 : decode cX4_nearestOnShelf 85 = .ok (.iload_n 3, 1) := by decide +kernel
theorem dX4_nearestOnShelf_86 : decode cX4_nearestOnShelf 86 = .ok (.ireturn, 1) := by decide +kernel
theorem dX4_recallFor_0 : decode cX4_recallFor 0 = .ok (.aload_n 0, 1) := by decide +kernel
theorem dX4_recallFor_1 : decode cX4_recallFor 1 = .ok (.iload_n 1, 1) := by decide +kernel
theorem dX4_recallFor_2 : decode cX4_recallFor 2 = .ok (.invokevirtual 302, 3) := by decide +kernel
theorem dX4_recallFor_5 : decode cX4_recallFor 5 = .ok (.istore_n 2, 1) := by decide +kernel
theorem dX4_recallFor_6 : decode cX4_recallFor 6 = .ok (.iload_n 2, 1) := by decide +kernel
theorem dX4_recallFor_7 : decode cX4_recallFor 7 = .ok (.bipush (-2), 2) := by decide +kernel
theorem dX4_recallFor_9 : decode cX4_recallFor 9 = .ok (.if_icmp .ne 4, 3) := by decide +kernel
theorem dX4_recallFor_12 : decode cX4_recallFor 12 = .ok (.return_, 1) := by decide +kernel
theorem dX4_recallFor_13 : decode cX4_recallFor 13 = .ok (.aload_n 0, 1) := by decide +kernel
theorem dX4_recallFor_14 : decode cX4_recallFor 14 = .ok (.getfield 10, 3) := by decide +kernel
theorem dX4_recallFor_17 : decode cX4_recallFor 17 = .ok (.getfield 98, 3) := by decide +kernel
theorem dX4_recallFor_20 : decode cX4_recallFor 20 = .ok (.iconst 3, 1) := by decide +kernel
theorem dX4_recallFor_21 : decode cX4_recallFor 21 = .ok (.iadd, 1) := by decide +kernel
theorem dX4_recallFor_22 : decode cX4_recallFor 22 = .ok (.istore_n 3, 1) := by decide +kernel
theorem dX4_recallFor_23 : decode cX4_recallFor 23 = .ok (.aload_n 0, 1) := by decide +kernel
theorem dX4_recallFor_24 : decode cX4_recallFor 24 = .ok (.getfield 10, 3) := by decide +kernel
theorem dX4_recallFor_27 : decode cX4_recallFor 27 = .ok (.getfield 47, 3) := by decide +kernel
theorem dX4_recallFor_30 : decode cX4_recallFor 30 = .ok (.iload_n 2, 1) := by decide +kernel
theorem dX4_recallFor_31 : decode cX4_recallFor 31 = .ok (.bipush 7, 2) := by decide +kernel
theorem dX4_recallFor_33 : decode cX4_recallFor 33 = .ok (.invokevirtual 88, 3) := by decide +kernel
theorem dX4_recallFor_36 : decode cX4_recallFor 36 = .ok (.bipush 7, 2) := by decide +kernel
theorem dX4_recallFor_38 : decode cX4_recallFor 38 = .ok (.iadd, 1) := by decide +kernel
theorem dX4_recallFor_39 : decode cX4_recallFor 39 = .ok (.istore 4, 2) := by decide +kernel
theorem dX4_recallFor_41 : decode cX4_recallFor 41 = .ok (.aload_n 0, 1) := by decide +kernel
theorem dX4_recallFor_42 : decode cX4_recallFor 42 = .ok (.getfield 10, 3) := by decide +kernel
theorem dX4_recallFor_45 : decode cX4_recallFor 45 = .ok (.getfield 47, 3) := by decide +kernel
theorem dX4_recallFor_48 : decode cX4_recallFor 48 = .ok (.iload_n 2, 1) := by decide +kernel
theorem dX4_recallFor_49 : decode cX4_recallFor 49 = .ok (.bipush 6, 2) := by decide +kernel
theorem dX4_recallFor_51 : decode cX4_recallFor 51 = .ok (.invokevirtual 88, 3) := by decide +kernel
theorem dX4_recallFor_54 : decode cX4_recallFor 54 = .ok (.iload_n 3, 1) := by decide +kernel
theorem dX4_recallFor_55 : decode cX4_recallFor 55 = .ok (.iload 4, 2) := by decide +kernel
theorem dX4_recallFor_57 : decode cX4_recallFor 57 = .ok (.invokestatic 222, 3) := by decide +kernel
theorem dX4_recallFor_60 : decode cX4_recallFor 60 = .ok (.invokestatic 305, 3) := by decide +kernel
theorem dX4_recallFor_63 : decode cX4_recallFor 63 = .ok (.istore 5, 2) := by decide +kernel
theorem dX4_recallFor_65 : decode cX4_recallFor 65 = .ok (.aload_n 0, 1) := by decide +kernel
theorem dX4_recallFor_66 : decode cX4_recallFor 66 = .ok (.getfield 10, 3) := by decide +kernel
theorem dX4_recallFor_69 : decode cX4_recallFor 69 = .ok (.getfield 47, 3) := by decide +kernel
theorem dX4_recallFor_72 : decode cX4_recallFor 72 = .ok (.iload_n 2, 1) := by decide +kernel
theorem dX4_recallFor_73 : decode cX4_recallFor 73 = .ok (.bipush 6, 2) := by decide +kernel
theorem dX4_recallFor_75 : decode cX4_recallFor 75 = .ok (.iload 5, 2) := by decide +kernel
theorem dX4_recallFor_77 : decode cX4_recallFor 77 = .ok (.invokevirtual 57, 3) := by decide +kernel
theorem dX4_recallFor_80 : decode cX4_recallFor 80 = .ok (.aload_n 0, 1) := by decide +kernel
theorem dX4_recallFor_81 : decode cX4_recallFor 81 = .ok (.getfield 10, 3) := by decide +kernel
theorem dX4_recallFor_84 : decode cX4_recallFor 84 = .ok (.getfield 47, 3) := by decide +kernel
theorem dX4_recallFor_87 : decode cX4_recallFor 87 = .ok (.iload_n 2, 1) := by decide +kernel
theorem dX4_recallFor_88 : decode cX4_recallFor 88 = .ok (.bipush 9, 2) := by decide +kernel
theorem dX4_recallFor_90 : decode cX4_recallFor 90 = .ok (.iconst 1, 1) := by decide +kernel
theorem dX4_recallFor_91 : decode cX4_recallFor 91 = .ok (.invokevirtual 57, 3) := by decide +kernel
theorem dX4_recallFor_94 : decode cX4_recallFor 94 = .ok (.return_, 1) := by decide +kernel
theorem dX4_earliestNotRecalled_0 : decode cX4_earliestNotRecalled 0 = .ok (.bipush (-2), 2) := by decide +kernel
theorem dX4_earliestNotRecalled_2 : decode cX4_earliestNotRecalled 2 = .ok (.istore_n 2, 1) := by decide +kernel
theorem dX4_earliestNotRecalled_3 : decode cX4_earliestNotRecalled 3 = .ok (.iconst 0, 1) := by decide +kernel
theorem dX4_earliestNotRecalled_4 : decode cX4_earliestNotRecalled 4 = .ok (.istore_n 3, 1) := by decide +kernel
theorem dX4_earliestNotRecalled_5 : decode cX4_earliestNotRecalled 5 = .ok (.iload_n 3, 1) := by decide +kernel
theorem dX4_earliestNotRecalled_6 : decode cX4_earliestNotRecalled 6 = .ok (.aload_n 0, 1) := by decide +kernel
theorem dX4_earliestNotRecalled_7 : decode cX4_earliestNotRecalled 7 = .ok (.getfield 10, 3) := by decide +kernel
theorem dX4_earliestNotRecalled_10 : decode cX4_earliestNotRecalled 10 = .ok (.getfield 47, 3) := by decide +kernel
theorem dX4_earliestNotRecalled_13 : decode cX4_earliestNotRecalled 13 = .ok (.invokevirtual 92, 3) := by decide +kernel
theorem dX4_earliestNotRecalled_16 : decode cX4_earliestNotRecalled 16 = .ok (.if_icmp .ge 84, 3) := by decide +kernel
theorem dX4_earliestNotRecalled_19 : decode cX4_earliestNotRecalled 19 = .ok (.aload_n 0, 1) := by decide +kernel
theorem dX4_earliestNotRecalled_20 : decode cX4_earliestNotRecalled 20 = .ok (.iload_n 3, 1) := by decide +kernel
theorem dX4_earliestNotRecalled_21 : decode cX4_earliestNotRecalled 21 = .ok (.invokevirtual 118, 3) := by decide +kernel
theorem dX4_earliestNotRecalled_24 : decode cX4_earliestNotRecalled 24 = .ok (.iload_n 1, 1) := by decide +kernel
theorem dX4_earliestNotRecalled_25 : decode cX4_earliestNotRecalled 25 = .ok (.if_icmp .ne 69, 3) := by decide +kernel
theorem dX4_earliestNotRecalled_28 : decode cX4_earliestNotRecalled 28 = .ok (.aload_n 0, 1) := by decide +kernel
theorem dX4_earliestNotRecalled_29 : decode cX4_earliestNotRecalled 29 = .ok (.iload_n 3, 1) := by decide +kernel
theorem dX4_earliestNotRecalled_30 : decode cX4_earliestNotRecalled 30 = .ok (.invokevirtual 95, 3) := by decide +kernel
theorem dX4_earliestNotRecalled_33 : decode cX4_earliestNotRecalled 33 = .ok (.iconst 1, 1) := by decide +kernel
theorem dX4_earliestNotRecalled_34 : decode cX4_earliestNotRecalled 34 = .ok (.if_icmp .ne 60, 3) := by decide +kernel
theorem dX4_earliestNotRecalled_37 : decode cX4_earliestNotRecalled 37 = .ok (.aload_n 0, 1) := by decide +kernel
theorem dX4_earliestNotRecalled_38 : decode cX4_earliestNotRecalled 38 = .ok (.getfield 10, 3) := by decide +kernel
theorem dX4_earliestNotRecalled_41 : decode cX4_earliestNotRecalled 41 = .ok (.getfield 47, 3) := by decide +kernel
theorem dX4_earliestNotRecalled_44 : decode cX4_earliestNotRecalled 44 = .ok (.iload_n 3, 1) := by decide +kernel
theorem dX4_earliestNotRecalled_45 : decode cX4_earliestNotRecalled 45 = .ok (.bipush 9, 2) := by decide +kernel
theorem dX4_earliestNotRecalled_47 : decode cX4_earliestNotRecalled 47 = .ok (.invokevirtual 88, 3) := by decide +kernel
theorem dX4_earliestNotRecalled_50 : decode cX4_earliestNotRecalled 50 = .ok (.iconst 1, 1) := by decide +kernel
theorem dX4_earliestNotRecalled_51 : decode cX4_earliestNotRecalled 51 = .ok (.if_icmp .ne 6, 3) := by decide +kernel
theorem dX4_earliestNotRecalled_54 : decode cX4_earliestNotRecalled 54 = .ok (.goto 40, 3) := by decide +kernel
theorem dX4_earliestNotRecalled_57 : decode cX4_earliestNotRecalled 57 = .ok (.iload_n 2, 1) := by decide +kernel
theorem dX4_earliestNotRecalled_58 : decode cX4_earliestNotRecalled 58 = .ok (.bipush (-2), 2) := by decide +kernel
theorem dX4_earliestNotRecalled_60 : decode cX4_earliestNotRecalled 60 = .ok (.if_icmp .eq 32, 3) := by decide +kernel
theorem dX4_earliestNotRecalled_63 : decode cX4_earliestNotRecalled 63 = .ok (.aload_n 0, 1) := by decide +kernel
theorem dX4_earliestNotRecalled_64 : decode cX4_earliestNotRecalled 64 = .ok (.getfield 10, 3) := by decide +kernel
theorem dX4_earliestNotRecalled_67 : decode cX4_earliestNotRecalled 67 = .ok (.getfield 47, 3) := by decide +kernel
theorem dX4_earliestNotRecalled_70 : decode cX4_earliestNotRecalled 70 = .ok (.iload_n 3, 1) := by decide +kernel
theorem dX4_earliestNotRecalled_71 : decode cX4_earliestNotRecalled 71 = .ok (.bipush 7, 2) := by decide +kernel
theorem dX4_earliestNotRecalled_73 : decode cX4_earliestNotRecalled 73 = .ok (.invokevirtual 88, 3) := by decide +kernel
theorem dX4_earliestNotRecalled_76 : decode cX4_earliestNotRecalled 76 = .ok (.aload_n 0, 1) := by decide +kernel
theorem dX4_earliestNotRecalled_77 : decode cX4_earliestNotRecalled 77 = .ok (.getfield 10, 3) := by decide +kernel
theorem dX4_earliestNotRecalled_80 : decode cX4_earliestNotRecalled 80 = .ok (.getfield 47, 3) := by decide +kernel
theorem dX4_earliestNotRecalled_83 : decode cX4_earliestNotRecalled 83 = .ok (.iload_n 2, 1) := by decide +kernel
theorem dX4_earliestNotRecalled_84 : decode cX4_earliestNotRecalled 84 = .ok (.bipush 7, 2) := by decide +kernel
theorem dX4_earliestNotRecalled_86 : decode cX4_earliestNotRecalled 86 = .ok (.invokevirtual 88, 3) := by decide +kernel
theorem dX4_earliestNotRecalled_89 : decode cX4_earliestNotRecalled 89 = .ok (.if_icmp .ge 5, 3) := by decide +kernel
theorem dX4_earliestNotRecalled_92 : decode cX4_earliestNotRecalled 92 = .ok (.iload_n 3, 1) := by decide +kernel
theorem dX4_earliestNotRecalled_93 : decode cX4_earliestNotRecalled 93 = .ok (.istore_n 2, 1) := by decide +kernel
theorem dX4_earliestNotRecalled_94 : decode cX4_earliestNotRecalled 94 = .ok (.iinc 3 1, 3) := by decide +kernel
theorem dX4_earliestNotRecalled_97 : decode cX4_earliestNotRecalled 97 = .ok (.goto (-92), 3) := by decide +kernel
theorem dX4_earliestNotRecalled_100 : decode cX4_earliestNotRecalled 100 = .ok (.iload_n 2, 1) := by decide +kernel
theorem dX4_earliestNotRecalled_101 : decode cX4_earliestNotRecalled 101 = .ok (.ireturn, 1) := by decide +kernel
theorem dX4_nextByDay_0 : decode cX4_nextByDay 0 = .ok (.iconst 0, 1) := by decide +kernel
theorem dX4_nextByDay_1 : decode cX4_nextByDay 1 = .ok (.istore 4, 2) := by decide +kernel
theorem dX4_nextByDay_3 : decode cX4_nextByDay 3 = .ok (.iload 4, 2) := by decide +kernel
theorem dX4_nextByDay_5 : decode cX4_nextByDay 5 = .ok (.aload_n 0, 1) := by decide +kernel
theorem dX4_nextByDay_6 : decode cX4_nextByDay 6 = .ok (.getfield 10, 3) := by decide +kernel
theorem dX4_nextByDay_9 : decode cX4_nextByDay 9 = .ok (.getfield 47, 3) := by decide +kernel
theorem dX4_nextByDay_12 : decode cX4_nextByDay 12 = .ok (.invokevirtual 92, 3) := by decide +kernel
theorem dX4_nextByDay_15 : decode cX4_nextByDay 15 = .ok (.if_icmp .ge 35, 3) := by decide +kernel
theorem dX4_nextByDay_18 : decode cX4_nextByDay 18 = .ok (.aload_n 0, 1) := by decide +kernel
theorem dX4_nextByDay_19 : decode cX4_nextByDay 19 = .ok (.iload 4, 2) := by decide +kernel
theorem dX4_nextByDay_21 : decode cX4_nextByDay 21 = .ok (.iload_n 1, 1) := by decide +kernel
theorem dX4_nextByDay_22 : decode cX4_nextByDay 22 = .ok (.iload_n 2, 1) := by decide +kernel
theorem dX4_nextByDay_23 : decode cX4_nextByDay 23 = .ok (.invokevirtual 231, 3) := by decide +kernel
theorem dX4_nextByDay_26 : decode cX4_nextByDay 26 = .ok (.ifCond .eq 18, 3) := by decide +kernel
theorem dX4_nextByDay_29 : decode cX4_nextByDay 29 = .ok (.aload_n 0, 1) := by decide +kernel
theorem dX4_nextByDay_30 : decode cX4_nextByDay 30 = .ok (.iload 4, 2) := by decide +kernel
theorem dX4_nextByDay_32 : decode cX4_nextByDay 32 = .ok (.iload_n 1, 1) := by decide +kernel
theorem dX4_nextByDay_33 : decode cX4_nextByDay 33 = .ok (.iload_n 2, 1) := by decide +kernel
theorem dX4_nextByDay_34 : decode cX4_nextByDay 34 = .ok (.invokevirtual 308, 3) := by decide +kernel
theorem dX4_nextByDay_37 : decode cX4_nextByDay 37 = .ok (.iload_n 3, 1) := by decide +kernel
theorem dX4_nextByDay_38 : decode cX4_nextByDay 38 = .ok (.if_icmp .ne 6, 3) := by decide +kernel
theorem dX4_nextByDay_41 : decode cX4_nextByDay 41 = .ok (.iload 4, 2) := by decide +kernel
theorem dX4_nextByDay_43 : decode cX4_nextByDay 43 = .ok (.ireturn, 1) := by decide +kernel
theorem dX4_nextByDay_44 : decode cX4_nextByDay 44 = .ok (.iinc 4 1, 3) := by decide +kernel
theorem dX4_nextByDay_47 : decode cX4_nextByDay 47 = .ok (.goto (-44), 3) := by decide +kernel
theorem dX4_nextByDay_50 : decode cX4_nextByDay 50 = .ok (.bipush (-2), 2) := by decide +kernel
theorem dX4_nextByDay_52 : decode cX4_nextByDay 52 = .ok (.ireturn, 1) := by decide +kernel
theorem dX4_countBefore_0 : decode cX4_countBefore 0 = .ok (.aload_n 0, 1) := by decide +kernel
theorem dX4_countBefore_1 : decode cX4_countBefore 1 = .ok (.getfield 10, 3) := by decide +kernel
theorem dX4_countBefore_4 : decode cX4_countBefore 4 = .ok (.getfield 47, 3) := by decide +kernel
theorem dX4_countBefore_7 : decode cX4_countBefore 7 = .ok (.iload_n 1, 1) := by decide +kernel
theorem dX4_countBefore_8 : decode cX4_countBefore 8 = .ok (.bipush 6, 2) := by decide +kernel
theorem dX4_countBefore_10 : decode cX4_countBefore 10 = .ok (.invokevirtual 88, 3) := by decide +kernel
theorem dX4_countBefore_13 : decode cX4_countBefore 13 = .ok (.istore 4, 2) := by decide +kernel
theorem dX4_countBefore_15 : decode cX4_countBefore 15 = .ok (.iconst 0, 1) := by decide +kernel
theorem dX4_countBefore_16 : decode cX4_countBefore 16 = .ok (.istore 5, 2) := by decide +kernel
theorem dX4_countBefore_18 : decode cX4_countBefore 18 = .ok (.iconst 0, 1) := by decide +kernel
theorem dX4_countBefore_19 : decode cX4_countBefore 19 = .ok (.istore 6, 2) := by decide +kernel
theorem dX4_countBefore_21 : decode cX4_countBefore 21 = .ok (.iload 6, 2) := by decide +kernel
theorem dX4_countBefore_23 : decode cX4_countBefore 23 = .ok (.aload_n 0, 1) := by decide +kernel
theorem dX4_countBefore_24 : decode cX4_countBefore 24 = .ok (.getfield 10, 3) := by decide +kernel
theorem dX4_countBefore_27 : decode cX4_countBefore 27 = .ok (.getfield 47, 3) := by decide +kernel
theorem dX4_countBefore_30 : decode cX4_countBefore 30 = .ok (.invokevirtual 92, 3) := by decide +kernel
theorem dX4_countBefore_33 : decode cX4_countBefore 33 = .ok (.if_icmp .ge 48, 3) := by decide +kernel
theorem dX4_countBefore_36 : decode cX4_countBefore 36 = .ok (.aload_n 0, 1) := by decide +kernel
theorem dX4_countBefore_37 : decode cX4_countBefore 37 = .ok (.iload 6, 2) := by decide +kernel
theorem dX4_countBefore_39 : decode cX4_countBefore 39 = .ok (.iload_n 2, 1) := by decide +kernel
theorem dX4_countBefore_40 : decode cX4_countBefore 40 = .ok (.iload_n 3, 1) := by decide +kernel
theorem dX4_countBefore_41 : decode cX4_countBefore 41 = .ok (.invokevirtual 231, 3) := by decide +kernel
theorem dX4_countBefore_44 : decode cX4_countBefore 44 = .ok (.ifCond .eq 31, 3) := by decide +kernel
theorem dX4_countBefore_47 : decode cX4_countBefore 47 = .ok (.aload_n 0, 1) := by decide +kernel
theorem dX4_countBefore_48 : decode cX4_countBefore 48 = .ok (.getfield 10, 3) := by decide +kernel
theorem dX4_countBefore_51 : decode cX4_countBefore 51 = .ok (.getfield 47, 3) := by decide +kernel
theorem dX4_countBefore_54 : decode cX4_countBefore 54 = .ok (.iload 6, 2) := by decide +kernel
theorem dX4_countBefore_56 : decode cX4_countBefore 56 = .ok (.bipush 6, 2) := by decide +kernel
theorem dX4_countBefore_58 : decode cX4_countBefore 58 = .ok (.invokevirtual 88, 3) := by decide +kernel
theorem dX4_countBefore_61 : decode cX4_countBefore 61 = .ok (.iload 6, 2) := by decide +kernel
theorem dX4_countBefore_63 : decode cX4_countBefore 63 = .ok (.iload 4, 2) := by decide +kernel
theorem dX4_countBefore_65 : decode cX4_countBefore 65 = .ok (.iload_n 1, 1) := by decide +kernel
theorem dX4_countBefore_66 : decode cX4_countBefore 66 = .ok (.invokestatic 227, 3) := by decide +kernel
theorem dX4_countBefore_69 : decode cX4_countBefore 69 = .ok (.ifCond .eq 6, 3) := by decide +kernel
theorem dX4_countBefore_72 : decode cX4_countBefore 72 = .ok (.iinc 5 1, 3) := by decide +kernel
theorem dX4_countBefore_75 : decode cX4_countBefore 75 = .ok (.iinc 6 1, 3) := by decide +kernel
theorem dX4_countBefore_78 : decode cX4_countBefore 78 = .ok (.goto (-57), 3) := by decide +kernel
theorem dX4_countBefore_81 : decode cX4_countBefore 81 = .ok (.iload 5, 2) := by decide +kernel
theorem dX4_countBefore_83 : decode cX4_countBefore 83 = .ok (.ireturn, 1) := by decide +kernel
theorem dX4_isBefore_0 : decode cX4_isBefore 0 = .ok (.iload_n 0, 1) := by decide +kernel
theorem dX4_isBefore_1 : decode cX4_isBefore 1 = .ok (.iload_n 2, 1) := by decide +kernel
theorem dX4_isBefore_2 : decode cX4_isBefore 2 = .ok (.if_icmp .lt 13, 3) := by decide +kernel
theorem dX4_isBefore_5 : decode cX4_isBefore 5 = .ok (.iload_n 0, 1) := by decide +kernel
theorem dX4_isBefore_6 : decode cX4_isBefore 6 = .ok (.iload_n 2, 1) := by decide +kernel
theorem dX4_isBefore_7 : decode cX4_isBefore 7 = .ok (.if_icmp .ne 12, 3) := by decide +kernel
theorem dX4_isBefore_10 : decode cX4_isBefore 10 = .ok (.iload_n 1, 1) := by decide +kernel
theorem dX4_isBefore_11 : decode cX4_isBefore 11 = .ok (.iload_n 3, 1) := by decide +kernel
theorem dX4_isBefore_12 : decode cX4_isBefore 12 = .ok (.if_icmp .ge 7, 3) := by decide +kernel
theorem dX4_isBefore_15 : decode cX4_isBefore 15 = .ok (.iconst 1, 1) := by decide +kernel
theorem dX4_isBefore_16 : decode cX4_isBefore 16 = .ok (.goto 4, 3) := by decide +kernel
theorem dX4_isBefore_19 : decode cX4_isBefore 19 = .ok (.iconst 0, 1) := by decide +kernel
theorem dX4_isBefore_20 : decode cX4_isBefore 20 = .ok (.ireturn, 1) := by decide +kernel
theorem dX4_findHold_0 : decode cX4_findHold 0 = .ok (.iconst 0, 1) := by decide +kernel
theorem dX4_findHold_1 : decode cX4_findHold 1 = .ok (.istore_n 3, 1) := by decide +kernel
theorem dX4_findHold_2 : decode cX4_findHold 2 = .ok (.iload_n 3, 1) := by decide +kernel
theorem dX4_findHold_3 : decode cX4_findHold 3 = .ok (.aload_n 0, 1) := by decide +kernel
theorem dX4_findHold_4 : decode cX4_findHold 4 = .ok (.getfield 10, 3) := by decide +kernel
theorem dX4_findHold_7 : decode cX4_findHold 7 = .ok (.getfield 192, 3) := by decide +kernel
theorem dX4_findHold_10 : decode cX4_findHold 10 = .ok (.invokevirtual 92, 3) := by decide +kernel
theorem dX4_findHold_13 : decode cX4_findHold 13 = .ok (.if_icmp .ge 43, 3) := by decide +kernel
theorem dX4_findHold_16 : decode cX4_findHold 16 = .ok (.aload_n 0, 1) := by decide +kernel
theorem dX4_findHold_17 : decode cX4_findHold 17 = .ok (.getfield 10, 3) := by decide +kernel
theorem dX4_findHold_20 : decode cX4_findHold 20 = .ok (.getfield 192, 3) := by decide +kernel
theorem dX4_findHold_23 : decode cX4_findHold 23 = .ok (.iload_n 3, 1) := by decide +kernel
theorem dX4_findHold_24 : decode cX4_findHold 24 = .ok (.iconst 0, 1) := by decide +kernel
theorem dX4_findHold_25 : decode cX4_findHold 25 = .ok (.invokevirtual 88, 3) := by decide +kernel
theorem dX4_findHold_28 : decode cX4_findHold 28 = .ok (.iload_n 1, 1) := by decide +kernel
theorem dX4_findHold_29 : decode cX4_findHold 29 = .ok (.if_icmp .ne 21, 3) := by decide +kernel
theorem dX4_findHold_32 : decode cX4_findHold 32 = .ok (.aload_n 0, 1) := by decide +kernel
theorem dX4_findHold_33 : decode cX4_findHold 33 = .ok (.getfield 10, 3) := by decide +kernel
theorem dX4_findHold_36 : decode cX4_findHold 36 = .ok (.getfield 192, 3) := by decide +kernel
theorem dX4_findHold_39 : decode cX4_findHold 39 = .ok (.iload_n 3, 1) := by decide +kernel
theorem dX4_findHold_40 : decode cX4_findHold 40 = .ok (.iconst 3, 1) := by decide +kernel
theorem dX4_findHold_41 : decode cX4_findHold 41 = .ok (.invokevirtual 88, 3) := by decide +kernel
theorem dX4_findHold_44 : decode cX4_findHold 44 = .ok (.iload_n 2, 1) := by decide +kernel
theorem dX4_findHold_45 : decode cX4_findHold 45 = .ok (.if_icmp .ne 5, 3) := by decide +kernel
theorem dX4_findHold_48 : decode cX4_findHold 48 = .ok (.iload_n 3, 1) := by decide +kernel
theorem dX4_findHold_49 : decode cX4_findHold 49 = .ok (.ireturn, 1) := by decide +kernel
theorem dX4_findHold_50 : decode cX4_findHold 50 = .ok (.iinc 3 1, 3) := by decide +kernel
theorem dX4_findHold_53 : decode cX4_findHold 53 = .ok (.goto (-51), 3) := by decide +kernel
theorem dX4_findHold_56 : decode cX4_findHold 56 = .ok (.bipush (-2), 2) := by decide +kernel
theorem dX4_findHold_58 : decode cX4_findHold 58 = .ok (.ireturn, 1) := by decide +kernel
theorem dX4_removeHold_0 : decode cX4_removeHold 0 = .ok (.aload_n 0, 1) := by decide +kernel
theorem dX4_removeHold_1 : decode cX4_removeHold 1 = .ok (.getfield 10, 3) := by decide +kernel
theorem dX4_removeHold_4 : decode cX4_removeHold 4 = .ok (.getfield 192, 3) := by decide +kernel
theorem dX4_removeHold_7 : decode cX4_removeHold 7 = .ok (.iload_n 1, 1) := by decide +kernel
theorem dX4_removeHold_8 : decode cX4_removeHold 8 = .ok (.iconst 2, 1) := by decide +kernel
theorem dX4_removeHold_9 : decode cX4_removeHold 9 = .ok (.invokevirtual 88, 3) := by decide +kernel
theorem dX4_removeHold_12 : decode cX4_removeHold 12 = .ok (.istore_n 2, 1) := by decide +kernel
theorem dX4_removeHold_13 : decode cX4_removeHold 13 = .ok (.iload_n 2, 1) := by decide +kernel
theorem dX4_removeHold_14 : decode cX4_removeHold 14 = .ok (.bipush (-2), 2) := by decide +kernel
theorem dX4_removeHold_16 : decode cX4_removeHold 16 = .ok (.if_icmp .eq 17, 3) := by decide +kernel
theorem dX4_removeHold_19 : decode cX4_removeHold 19 = .ok (.aload_n 0, 1) := by decide +kernel
theorem dX4_removeHold_20 : decode cX4_removeHold 20 = .ok (.getfield 10, 3) := by decide +kernel
theorem dX4_removeHold_23 : decode cX4_removeHold 23 = .ok (.getfield 47, 3) := by decide +kernel
theorem dX4_removeHold_26 : decode cX4_removeHold 26 = .ok (.iload_n 2, 1) := by decide +kernel
theorem dX4_removeHold_27 : decode cX4_removeHold 27 = .ok (.iconst 5, 1) := by decide +kernel
theorem dX4_removeHold_28 : decode cX4_removeHold 28 = .ok (.bipush (-2), 2) := by decide +kernel
theorem dX4_removeHold_30 : decode cX4_removeHold 30 = .ok (.invokevirtual 57, 3) := by decide +kernel
theorem dX4_removeHold_33 : decode cX4_removeHold 33 = .ok (.aload_n 0, 1) := by decide +kernel
theorem dX4_removeHold_34 : decode cX4_removeHold 34 = .ok (.getfield 10, 3) := by decide +kernel
theorem dX4_removeHold_37 : decode cX4_removeHold 37 = .ok (.getfield 192, 3) := by decide +kernel
theorem dX4_removeHold_40 : decode cX4_removeHold 40 = .ok (.iload_n 1, 1) := by decide +kernel
theorem dX4_removeHold_41 : decode cX4_removeHold 41 = .ok (.invokevirtual 311, 3) := by decide +kernel
theorem dX4_removeHold_44 : decode cX4_removeHold 44 = .ok (.return_, 1) := by decide +kernel
theorem dX4_isWaiting_0 : decode cX4_isWaiting 0 = .ok (.aload_n 0, 1) := by decide +kernel
theorem dX4_isWaiting_1 : decode cX4_isWaiting 1 = .ok (.getfield 10, 3) := by decide +kernel
theorem dX4_isWaiting_4 : decode cX4_isWaiting 4 = .ok (.getfield 192, 3) := by decide +kernel
theorem dX4_isWaiting_7 : decode cX4_isWaiting 7 = .ok (.iload_n 1, 1) := by decide +kernel
theorem dX4_isWaiting_8 : decode cX4_isWaiting 8 = .ok (.iconst 3, 1) := by decide +kernel
theorem dX4_isWaiting_9 : decode cX4_isWaiting 9 = .ok (.invokevirtual 88, 3) := by decide +kernel
theorem dX4_isWaiting_12 : decode cX4_isWaiting 12 = .ok (.iload_n 2, 1) := by decide +kernel
theorem dX4_isWaiting_13 : decode cX4_isWaiting 13 = .ok (.if_icmp .ne 24, 3) := by decide +kernel
theorem dX4_isWaiting_16 : decode cX4_isWaiting 16 = .ok (.aload_n 0, 1) := by decide +kernel
theorem dX4_isWaiting_17 : decode cX4_isWaiting 17 = .ok (.getfield 10, 3) := by decide +kernel
theorem dX4_isWaiting_20 : decode cX4_isWaiting 20 = .ok (.getfield 192, 3) := by decide +kernel
theorem dX4_isWaiting_23 : decode cX4_isWaiting 23 = .ok (.iload_n 1, 1) := by decide +kernel
theorem dX4_isWaiting_24 : decode cX4_isWaiting 24 = .ok (.iconst 2, 1) := by decide +kernel
theorem dX4_isWaiting_25 : decode cX4_isWaiting 25 = .ok (.invokevirtual 88, 3) := by decide +kernel
theorem dX4_isWaiting_28 : decode cX4_isWaiting 28 = .ok (.bipush (-2), 2) := by decide +kernel
theorem dX4_isWaiting_30 : decode cX4_isWaiting 30 = .ok (.if_icmp .ne 7, 3) := by decide +kernel
theorem dX4_isWaiting_33 : decode cX4_isWaiting 33 = .ok (.iconst 1, 1) := by decide +kernel
theorem dX4_isWaiting_34 : decode cX4_isWaiting 34 = .ok (.goto 4, 3) := by decide +kernel
theorem dX4_isWaiting_37 : decode cX4_isWaiting 37 = .ok (.iconst 0, 1) := by decide +kernel
theorem dX4_isWaiting_38 : decode cX4_isWaiting 38 = .ok (.ireturn, 1) := by decide +kernel
theorem dX4_firstWaiting_0 : decode cX4_firstWaiting 0 = .ok (.iconst 0, 1) := by decide +kernel
theorem dX4_firstWaiting_1 : decode cX4_firstWaiting 1 = .ok (.istore_n 2, 1) := by decide +kernel
theorem dX4_firstWaiting_2 : decode cX4_firstWaiting 2 = .ok (.iload_n 2, 1) := by decide +kernel
theorem dX4_firstWaiting_3 : decode cX4_firstWaiting 3 = .ok (.aload_n 0, 1) := by decide +kernel
theorem dX4_firstWaiting_4 : decode cX4_firstWaiting 4 = .ok (.getfield 10, 3) := by decide +kernel
theorem dX4_firstWaiting_7 : decode cX4_firstWaiting 7 = .ok (.getfield 192, 3) := by decide +kernel
theorem dX4_firstWaiting_10 : decode cX4_firstWaiting 10 = .ok (.invokevirtual 92, 3) := by decide +kernel
theorem dX4_firstWaiting_13 : decode cX4_firstWaiting 13 = .ok (.if_icmp .ge 20, 3) := by decide +kernel
theorem dX4_firstWaiting_16 : decode cX4_firstWaiting 16 = .ok (.aload_n 0, 1) := by decide +kernel
theorem dX4_firstWaiting_17 : decode cX4_firstWaiting 17 = .ok (.iload_n 2, 1) := by decide +kernel
theorem dX4_firstWaiting_18 : decode cX4_firstWaiting 18 = .ok (.iload_n 1, 1) := by decide +kernel
theorem dX4_firstWaiting_19 : decode cX4_firstWaiting 19 = .ok (.invokevirtual 314, 3) := by decide +kernel
theorem dX4_firstWaiting_22 : decode cX4_firstWaiting 22 = .ok (.ifCond .eq 5, 3) := by decide +kernel
theorem dX4_firstWaiting_25 : decode cX4_firstWaiting 25 = .ok (.iload_n 2, 1) := by decide +kernel
theorem dX4_firstWaiting_26 : decode cX4_firstWaiting 26 = .ok (.ireturn, 1) := by decide +kernel
theorem dX4_firstWaiting_27 : decode cX4_firstWaiting 27 = .ok (.iinc 2 1, 3) := by decide +kernel
theorem dX4_firstWaiting_30 : decode cX4_firstWaiting 30 = .ok (.goto (-28), 3) := by decide +kernel
theorem dX4_firstWaiting_33 : decode cX4_firstWaiting 33 = .ok (.bipush (-2), 2) := by decide +kernel
theorem dX4_firstWaiting_35 : decode cX4_firstWaiting 35 = .ok (.ireturn, 1) := by decide +kernel
theorem dX4_waitingBefore_0 : decode cX4_waitingBefore 0 = .ok (.iconst 0, 1) := by decide +kernel
theorem dX4_waitingBefore_1 : decode cX4_waitingBefore 1 = .ok (.istore_n 3, 1) := by decide +kernel
theorem dX4_waitingBefore_2 : decode cX4_waitingBefore 2 = .ok (.iconst 0, 1) := by decide +kernel
theorem dX4_waitingBefore_3 : decode cX4_waitingBefore 3 = .ok (.istore 4, 2) := by decide +kernel
theorem dX4_waitingBefore_5 : decode cX4_waitingBefore 5 = .ok (.iload 4, 2) := by decide +kernel
theorem dX4_waitingBefore_7 : decode cX4_waitingBefore 7 = .ok (.iload_n 1, 1) := by decide +kernel
theorem dX4_waitingBefore_8 : decode cX4_waitingBefore 8 = .ok (.if_icmp .ge 22, 3) := by decide +kernel
theorem dX4_waitingBefore_11 : decode cX4_waitingBefore 11 = .ok (.aload_n 0, 1) := by decide +kernel
theorem dX4_waitingBefore_12 : decode cX4_waitingBefore 12 = .ok (.iload 4, 2) := by decide +kernel
theorem dX4_waitingBefore_14 : decode cX4_waitingBefore 14 = .ok (.iload_n 2, 1) := by decide +kernel
theorem dX4_waitingBefore_15 : decode cX4_waitingBefore 15 = .ok (.invokevirtual 314, 3) := by decide +kernel
theorem dX4_waitingBefore_18 : decode cX4_waitingBefore 18 = .ok (.ifCond .eq 6, 3) := by decide +kernel
theorem dX4_waitingBefore_21 : decode cX4_waitingBefore 21 = .ok (.iinc 3 1, 3) := by decide +kernel
theorem dX4_waitingBefore_24 : decode cX4_waitingBefore 24 = .ok (.iinc 4 1, 3) := by decide +kernel
theorem dX4_waitingBefore_27 : decode cX4_waitingBefore 27 = .ok (.goto (-22), 3) := by decide +kernel
theorem dX4_waitingBefore_30 : decode cX4_waitingBefore 30 = .ok (.iload_n 3, 1) := by decide +kernel
theorem dX4_waitingBefore_31 : decode cX4_waitingBefore 31 = .ok (.ireturn, 1) := by decide +kernel
theorem dX4_holdsBefore_0 : decode cX4_holdsBefore 0 = .ok (.iconst 0, 1) := by decide +kernel
theorem dX4_holdsBefore_1 : decode cX4_holdsBefore 1 = .ok (.istore_n 3, 1) := by decide +kernel
theorem dX4_holdsBefore_2 : decode cX4_holdsBefore 2 = .ok (.iconst 0, 1) := by decide +kernel
theorem dX4_holdsBefore_3 : decode cX4_holdsBefore 3 = .ok (.istore 4, 2) := by decide +kernel
theorem dX4_holdsBefore_5 : decode cX4_holdsBefore 5 = .ok (.iload 4, 2) := by decide +kernel
theorem dX4_holdsBefore_7 : decode cX4_holdsBefore 7 = .ok (.iload_n 1, 1) := by decide +kernel
theorem dX4_holdsBefore_8 : decode cX4_holdsBefore 8 = .ok (.if_icmp .ge 29, 3) := by decide +kernel
theorem dX4_holdsBefore_11 : decode cX4_holdsBefore 11 = .ok (.aload_n 0, 1) := by decide +kernel
theorem dX4_holdsBefore_12 : decode cX4_holdsBefore 12 = .ok (.getfield 10, 3) := by decide +kernel
theorem dX4_holdsBefore_15 : decode cX4_holdsBefore 15 = .ok (.getfield 192, 3) := by decide +kernel
theorem dX4_holdsBefore_18 : decode cX4_holdsBefore 18 = .ok (.iload 4, 2) := by decide +kernel
theorem dX4_holdsBefore_20 : decode cX4_holdsBefore 20 = .ok (.iconst 3, 1) := by decide +kernel
theorem dX4_holdsBefore_21 : decode cX4_holdsBefore 21 = .ok (.invokevirtual 88, 3) := by decide +kernel
theorem dX4_holdsBefore_24 : decode cX4_holdsBefore 24 = .ok (.iload_n 2, 1) := by decide +kernel
theorem dX4_holdsBefore_25 : decode cX4_holdsBefore 25 = .ok (.if_icmp .ne 6, 3) := by decide +kernel
theorem dX4_holdsBefore_28 : decode cX4_holdsBefore 28 = .ok (.iinc 3 1, 3) := by decide +kernel
theorem dX4_holdsBefore_31 : decode cX4_holdsBefore 31 = .ok (.iinc 4 1, 3) := by decide +kernel
theorem dX4_holdsBefore_34 : decode cX4_holdsBefore 34 = .ok (.goto (-29), 3) := by decide +kernel
theorem dX4_holdsBefore_37 : decode cX4_holdsBefore 37 = .ok (.iload_n 3, 1) := by decide +kernel
theorem dX4_holdsBefore_38 : decode cX4_holdsBefore 38 = .ok (.ireturn, 1) := by decide +kernel
theorem dX4_holdsOf_0 : decode cX4_holdsOf 0 = .ok (.iconst 0, 1) := by decide +kernel
theorem dX4_holdsOf_1 : decode cX4_holdsOf 1 = .ok (.istore_n 2, 1) := by decide +kernel
theorem dX4_holdsOf_2 : decode cX4_holdsOf 2 = .ok (.iconst 0, 1) := by decide +kernel
theorem dX4_holdsOf_3 : decode cX4_holdsOf 3 = .ok (.istore_n 3, 1) := by decide +kernel
theorem dX4_holdsOf_4 : decode cX4_holdsOf 4 = .ok (.iload_n 3, 1) := by decide +kernel
theorem dX4_holdsOf_5 : decode cX4_holdsOf 5 = .ok (.aload_n 0, 1) := by decide +kernel
theorem dX4_holdsOf_6 : decode cX4_holdsOf 6 = .ok (.getfield 10, 3) := by decide +kernel
theorem dX4_holdsOf_9 : decode cX4_holdsOf 9 = .ok (.getfield 192, 3) := by decide +kernel
theorem dX4_holdsOf_12 : decode cX4_holdsOf 12 = .ok (.invokevirtual 92, 3) := by decide +kernel
theorem dX4_holdsOf_15 : decode cX4_holdsOf 15 = .ok (.if_icmp .ge 28, 3) := by decide +kernel
theorem dX4_holdsOf_18 : decode cX4_holdsOf 18 = .ok (.aload_n 0, 1) := by decide +kernel
theorem dX4_holdsOf_19 : decode cX4_holdsOf 19 = .ok (.getfield 10, 3) := by decide +kernel
theorem dX4_holdsOf_22 : decode cX4_holdsOf 22 = .ok (.getfield 192, 3) := by decide +kernel
theorem dX4_holdsOf_25 : decode cX4_holdsOf 25 = .ok (.iload_n 3, 1) := by decide +kernel
theorem dX4_holdsOf_26 : decode cX4_holdsOf 26 = .ok (.iconst 0, 1) := by decide +kernel
theorem dX4_holdsOf_27 : decode cX4_holdsOf 27 = .ok (.invokevirtual 88, 3) := by decide +kernel
theorem dX4_holdsOf_30 : decode cX4_holdsOf 30 = .ok (.iload_n 1, 1) := by decide +kernel
theorem dX4_holdsOf_31 : decode cX4_holdsOf 31 = .ok (.if_icmp .ne 6, 3) := by decide +kernel
theorem dX4_holdsOf_34 : decode cX4_holdsOf 34 = .ok (.iinc 2 1, 3) := by decide +kernel
theorem dX4_holdsOf_37 : decode cX4_holdsOf 37 = .ok (.iinc 3 1, 3) := by decide +kernel
theorem dX4_holdsOf_40 : decode cX4_holdsOf 40 = .ok (.goto (-36), 3) := by decide +kernel
theorem dX4_holdsOf_43 : decode cX4_holdsOf 43 = .ok (.iload_n 2, 1) := by decide +kernel
theorem dX4_holdsOf_44 : decode cX4_holdsOf 44 = .ok (.ireturn, 1) := by decide +kernel
theorem dX4_loanCount_0 : decode cX4_loanCount 0 = .ok (.iconst 0, 1) := by decide +kernel
theorem dX4_loanCount_1 : decode cX4_loanCount 1 = .ok (.istore_n 2, 1) := by decide +kernel
theorem dX4_loanCount_2 : decode cX4_loanCount 2 = .ok (.iconst 0, 1) := by decide +kernel
theorem dX4_loanCount_3 : decode cX4_loanCount 3 = .ok (.istore_n 3, 1) := by decide +kernel
theorem dX4_loanCount_4 : decode cX4_loanCount 4 = .ok (.iload_n 3, 1) := by decide +kernel
theorem dX4_loanCount_5 : decode cX4_loanCount 5 = .ok (.aload_n 0, 1) := by decide +kernel
theorem dX4_loanCount_6 : decode cX4_loanCount 6 = .ok (.getfield 10, 3) := by decide +kernel
theorem dX4_loanCount_9 : decode cX4_loanCount 9 = .ok (.getfield 47, 3) := by decide +kernel
theorem dX4_loanCount_12 : decode cX4_loanCount 12 = .ok (.invokevirtual 92, 3) := by decide +kernel
theorem dX4_loanCount_15 : decode cX4_loanCount 15 = .ok (.if_icmp .ge 22, 3) := by decide +kernel
theorem dX4_loanCount_18 : decode cX4_loanCount 18 = .ok (.aload_n 0, 1) := by decide +kernel
theorem dX4_loanCount_19 : decode cX4_loanCount 19 = .ok (.iload_n 3, 1) := by decide +kernel
theorem dX4_loanCount_20 : decode cX4_loanCount 20 = .ok (.iconst 1, 1) := by decide +kernel
theorem dX4_loanCount_21 : decode cX4_loanCount 21 = .ok (.iload_n 1, 1) := by decide +kernel
theorem dX4_loanCount_22 : decode cX4_loanCount 22 = .ok (.invokevirtual 231, 3) := by decide +kernel
theorem dX4_loanCount_25 : decode cX4_loanCount 25 = .ok (.ifCond .eq 6, 3) := by decide +kernel
theorem dX4_loanCount_28 : decode cX4_loanCount 28 = .ok (.iinc 2 1, 3) := by decide +kernel
theorem dX4_loanCount_31 : decode cX4_loanCount 31 = .ok (.iinc 3 1, 3) := by decide +kernel
theorem dX4_loanCount_34 : decode cX4_loanCount 34 = .ok (.goto (-30), 3) := by decide +kernel
theorem dX4_loanCount_37 : decode cX4_loanCount 37 = .ok (.iload_n 2, 1) := by decide +kernel
theorem dX4_loanCount_38 : decode cX4_loanCount 38 = .ok (.ireturn, 1) := by decide +kernel
theorem dX4_overdueCount_0 : decode cX4_overdueCount 0 = .ok (.iconst 0, 1) := by decide +kernel
theorem dX4_overdueCount_1 : decode cX4_overdueCount 1 = .ok (.istore_n 2, 1) := by decide +kernel
theorem dX4_overdueCount_2 : decode cX4_overdueCount 2 = .ok (.iconst 0, 1) := by decide +kernel
theorem dX4_overdueCount_3 : decode cX4_overdueCount 3 = .ok (.istore_n 3, 1) := by decide +kernel
theorem dX4_overdueCount_4 : decode cX4_overdueCount 4 = .ok (.iload_n 3, 1) := by decide +kernel
theorem dX4_overdueCount_5 : decode cX4_overdueCount 5 = .ok (.aload_n 0, 1) := by decide +kernel
theorem dX4_overdueCount_6 : decode cX4_overdueCount 6 = .ok (.getfield 10, 3) := by decide +kernel
theorem dX4_overdueCount_9 : decode cX4_overdueCount 9 = .ok (.getfield 47, 3) := by decide +kernel
theorem dX4_overdueCount_12 : decode cX4_overdueCount 12 = .ok (.invokevirtual 92, 3) := by decide +kernel
theorem dX4_overdueCount_15 : decode cX4_overdueCount 15 = .ok (.if_icmp .ge 45, 3) := by decide +kernel
theorem dX4_overdueCount_18 : decode cX4_overdueCount 18 = .ok (.aload_n 0, 1) := by decide +kernel
theorem dX4_overdueCount_19 : decode cX4_overdueCount 19 = .ok (.iload_n 3, 1) := by decide +kernel
theorem dX4_overdueCount_20 : decode cX4_overdueCount 20 = .ok (.iconst 1, 1) := by decide +kernel
theorem dX4_overdueCount_21 : decode cX4_overdueCount 21 = .ok (.iload_n 1, 1) := by decide +kernel
theorem dX4_overdueCount_22 : decode cX4_overdueCount 22 = .ok (.invokevirtual 231, 3) := by decide +kernel
theorem dX4_overdueCount_25 : decode cX4_overdueCount 25 = .ok (.ifCond .eq 29, 3) := by decide +kernel
theorem dX4_overdueCount_28 : decode cX4_overdueCount 28 = .ok (.aload_n 0, 1) := by decide +kernel
theorem dX4_overdueCount_29 : decode cX4_overdueCount 29 = .ok (.getfield 10, 3) := by decide +kernel
theorem dX4_overdueCount_32 : decode cX4_overdueCount 32 = .ok (.getfield 47, 3) := by decide +kernel
theorem dX4_overdueCount_35 : decode cX4_overdueCount 35 = .ok (.iload_n 3, 1) := by decide +kernel
theorem dX4_overdueCount_36 : decode cX4_overdueCount 36 = .ok (.bipush 6, 2) := by decide +kernel
theorem dX4_overdueCount_38 : decode cX4_overdueCount 38 = .ok (.invokevirtual 88, 3) := by decide +kernel
theorem dX4_overdueCount_41 : decode cX4_overdueCount 41 = .ok (.aload_n 0, 1) := by decide +kernel
theorem dX4_overdueCount_42 : decode cX4_overdueCount 42 = .ok (.getfield 10, 3) := by decide +kernel
theorem dX4_overdueCount_45 : decode cX4_overdueCount 45 = .ok (.getfield 98, 3) := by decide +kernel
theorem dX4_overdueCount_48 : decode cX4_overdueCount 48 = .ok (.if_icmp .ge 6, 3) := by decide +kernel
theorem dX4_overdueCount_51 : decode cX4_overdueCount 51 = .ok (.iinc 2 1, 3) := by decide +kernel
theorem dX4_overdueCount_54 : decode cX4_overdueCount 54 = .ok (.iinc 3 1, 3) := by decide +kernel
theorem dX4_overdueCount_57 : decode cX4_overdueCount 57 = .ok (.goto (-53), 3) := by decide +kernel
theorem dX4_overdueCount_60 : decode cX4_overdueCount 60 = .ok (.iload_n 2, 1) := by decide +kernel
theorem dX4_overdueCount_61 : decode cX4_overdueCount 61 = .ok (.ireturn, 1) := by decide +kernel
theorem dX4_hasLoanOf_0 : decode cX4_hasLoanOf 0 = .ok (.iconst 0, 1) := by decide +kernel
theorem dX4_hasLoanOf_1 : decode cX4_hasLoanOf 1 = .ok (.istore_n 3, 1) := by decide +kernel
theorem dX4_hasLoanOf_2 : decode cX4_hasLoanOf 2 = .ok (.iload_n 3, 1) := by decide +kernel
theorem dX4_hasLoanOf_3 : decode cX4_hasLoanOf 3 = .ok (.aload_n 0, 1) := by decide +kernel
theorem dX4_hasLoanOf_4 : decode cX4_hasLoanOf 4 = .ok (.getfield 10, 3) := by decide +kernel
theorem dX4_hasLoanOf_7 : decode cX4_hasLoanOf 7 = .ok (.getfield 47, 3) := by decide +kernel
theorem dX4_hasLoanOf_10 : decode cX4_hasLoanOf 10 = .ok (.invokevirtual 92, 3) := by decide +kernel
theorem dX4_hasLoanOf_13 : decode cX4_hasLoanOf 13 = .ok (.if_icmp .ge 30, 3) := by decide +kernel
theorem dX4_hasLoanOf_16 : decode cX4_hasLoanOf 16 = .ok (.aload_n 0, 1) := by decide +kernel
theorem dX4_hasLoanOf_17 : decode cX4_hasLoanOf 17 = .ok (.iload_n 3, 1) := by decide +kernel
theorem dX4_hasLoanOf_18 : decode cX4_hasLoanOf 18 = .ok (.iconst 1, 1) := by decide +kernel
theorem dX4_hasLoanOf_19 : decode cX4_hasLoanOf 19 = .ok (.iload_n 1, 1) := by decide +kernel
theorem dX4_hasLoanOf_20 : decode cX4_hasLoanOf 20 = .ok (.invokevirtual 231, 3) := by decide +kernel
theorem dX4_hasLoanOf_23 : decode cX4_hasLoanOf 23 = .ok (.ifCond .eq 14, 3) := by decide +kernel
theorem dX4_hasLoanOf_26 : decode cX4_hasLoanOf 26 = .ok (.aload_n 0, 1) := by decide +kernel
theorem dX4_hasLoanOf_27 : decode cX4_hasLoanOf 27 = .ok (.iload_n 3, 1) := by decide +kernel
theorem dX4_hasLoanOf_28 : decode cX4_hasLoanOf 28 = .ok (.invokevirtual 118, 3) := by decide +kernel
theorem dX4_hasLoanOf_31 : decode cX4_hasLoanOf 31 = .ok (.iload_n 2, 1) := by decide +kernel
theorem dX4_hasLoanOf_32 : decode cX4_hasLoanOf 32 = .ok (.if_icmp .ne 5, 3) := by decide +kernel
theorem dX4_hasLoanOf_35 : decode cX4_hasLoanOf 35 = .ok (.iconst 1, 1) := by decide +kernel
theorem dX4_hasLoanOf_36 : decode cX4_hasLoanOf 36 = .ok (.ireturn, 1) := by decide +kernel
theorem dX4_hasLoanOf_37 : decode cX4_hasLoanOf 37 = .ok (.iinc 3 1, 3) := by decide +kernel
theorem dX4_hasLoanOf_40 : decode cX4_hasLoanOf 40 = .ok (.goto (-38), 3) := by decide +kernel
theorem dX4_hasLoanOf_43 : decode cX4_hasLoanOf 43 = .ok (.iconst 0, 1) := by decide +kernel
theorem dX4_hasLoanOf_44 : decode cX4_hasLoanOf 44 = .ok (.ireturn, 1) := by decide +kernel
theorem dX4_owesTheLimit_0 : decode cX4_owesTheLimit 0 = .ok (.aload_n 0, 1) := by decide +kernel
theorem dX4_owesTheLimit_1 : decode cX4_owesTheLimit 1 = .ok (.getfield 10, 3) := by decide +kernel
theorem dX4_owesTheLimit_4 : decode cX4_owesTheLimit 4 = .ok (.getfield 69, 3) := by decide +kernel
theorem dX4_owesTheLimit_7 : decode cX4_owesTheLimit 7 = .ok (.iload_n 1, 1) := by decide +kernel
theorem dX4_owesTheLimit_8 : decode cX4_owesTheLimit 8 = .ok (.iconst 0, 1) := by decide +kernel
theorem dX4_owesTheLimit_9 : decode cX4_owesTheLimit 9 = .ok (.invokevirtual 88, 3) := by decide +kernel
theorem dX4_owesTheLimit_12 : decode cX4_owesTheLimit 12 = .ok (.aload_n 0, 1) := by decide +kernel
theorem dX4_owesTheLimit_13 : decode cX4_owesTheLimit 13 = .ok (.iconst 4, 1) := by decide +kernel
theorem dX4_owesTheLimit_14 : decode cX4_owesTheLimit 14 = .ok (.invokevirtual 82, 3) := by decide +kernel
theorem dX4_owesTheLimit_17 : decode cX4_owesTheLimit 17 = .ok (.if_icmp .lt 7, 3) := by decide +kernel
theorem dX4_owesTheLimit_20 : decode cX4_owesTheLimit 20 = .ok (.iconst 1, 1) := by decide +kernel
theorem dX4_owesTheLimit_21 : decode cX4_owesTheLimit 21 = .ok (.goto 4, 3) := by decide +kernel
theorem dX4_owesTheLimit_24 : decode cX4_owesTheLimit 24 = .ok (.iconst 0, 1) := by decide +kernel
theorem dX4_owesTheLimit_25 : decode cX4_owesTheLimit 25 = .ok (.ireturn, 1) := by decide +kernel
theorem dX4_fineOf_0 : decode cX4_fineOf 0 = .ok (.aload_n 0, 1) := by decide +kernel
theorem dX4_fineOf_1 : decode cX4_fineOf 1 = .ok (.iload_n 1, 1) := by decide +kernel
theorem dX4_fineOf_2 : decode cX4_fineOf 2 = .ok (.invokevirtual 95, 3) := by decide +kernel
theorem dX4_fineOf_5 : decode cX4_fineOf 5 = .ok (.iconst 1, 1) := by decide +kernel
theorem dX4_fineOf_6 : decode cX4_fineOf 6 = .ok (.if_icmp .eq 17, 3) := by decide +kernel
theorem dX4_fineOf_9 : decode cX4_fineOf 9 = .ok (.aload_n 0, 1) := by decide +kernel
theorem dX4_fineOf_10 : decode cX4_fineOf 10 = .ok (.getfield 10, 3) := by decide +kernel
theorem dX4_fineOf_13 : decode cX4_fineOf 13 = .ok (.getfield 47, 3) := by decide +kernel
theorem dX4_fineOf_16 : decode cX4_fineOf 16 = .ok (.iload_n 1, 1) := by decide +kernel
theorem dX4_fineOf_17 : decode cX4_fineOf 17 = .ok (.bipush 10, 2) := by decide +kernel
theorem dX4_fineOf_19 : decode cX4_fineOf 19 = .ok (.invokevirtual 88, 3) := by decide +kernel
theorem dX4_fineOf_22 : decode cX4_fineOf 22 = .ok (.ireturn, 1) := by decide +kernel
theorem dX4_fineOf_23 : decode cX4_fineOf 23 = .ok (.aload_n 0, 1) := by decide +kernel
theorem dX4_fineOf_24 : decode cX4_fineOf 24 = .ok (.getfield 10, 3) := by decide +kernel
theorem dX4_fineOf_27 : decode cX4_fineOf 27 = .ok (.getfield 98, 3) := by decide +kernel
theorem dX4_fineOf_30 : decode cX4_fineOf 30 = .ok (.i2l, 1) := by decide +kernel
theorem dX4_fineOf_31 : decode cX4_fineOf 31 = .ok (.aload_n 0, 1) := by decide +kernel
theorem dX4_fineOf_32 : decode cX4_fineOf 32 = .ok (.getfield 10, 3) := by decide +kernel
theorem dX4_fineOf_35 : decode cX4_fineOf 35 = .ok (.getfield 47, 3) := by decide +kernel
theorem dX4_fineOf_38 : decode cX4_fineOf 38 = .ok (.iload_n 1, 1) := by decide +kernel
theorem dX4_fineOf_39 : decode cX4_fineOf 39 = .ok (.bipush 6, 2) := by decide +kernel
theorem dX4_fineOf_41 : decode cX4_fineOf 41 = .ok (.invokevirtual 88, 3) := by decide +kernel
theorem dX4_fineOf_44 : decode cX4_fineOf 44 = .ok (.i2l, 1) := by decide +kernel
theorem dX4_fineOf_45 : decode cX4_fineOf 45 = .ok (.lsub, 1) := by decide +kernel
theorem dX4_fineOf_46 : decode cX4_fineOf 46 = .ok (.lstore_n 2, 1) := by decide +kernel
theorem dX4_fineOf_47 : decode cX4_fineOf 47 = .ok (.lload_n 2, 1) := by decide +kernel
theorem dX4_fineOf_48 : decode cX4_fineOf 48 = .ok (.lconst 0, 1) := by decide +kernel
theorem dX4_fineOf_49 : decode cX4_fineOf 49 = .ok (.lcmp, 1) := by decide +kernel
theorem dX4_fineOf_50 : decode cX4_fineOf 50 = .ok (.ifCond .gt 5, 3) := by decide +kernel
theorem dX4_fineOf_53 : decode cX4_fineOf 53 = .ok (.iconst 0, 1) := by decide +kernel
theorem dX4_fineOf_54 : decode cX4_fineOf 54 = .ok (.ireturn, 1) := by decide +kernel
theorem dX4_fineOf_55 : decode cX4_fineOf 55 = .ok (.aload_n 0, 1) := by decide +kernel
theorem dX4_fineOf_56 : decode cX4_fineOf 56 = .ok (.iconst 3, 1) := by decide +kernel
theorem dX4_fineOf_57 : decode cX4_fineOf 57 = .ok (.invokevirtual 82, 3) := by decide +kernel
theorem dX4_fineOf_60 : decode cX4_fineOf 60 = .ok (.i2l, 1) := by decide +kernel
theorem dX4_fineOf_61 : decode cX4_fineOf 61 = .ok (.lload_n 2, 1) := by decide +kernel
theorem dX4_fineOf_62 : decode cX4_fineOf 62 = .ok (.aload_n 0, 1) := by decide +kernel
theorem dX4_fineOf_63 : decode cX4_fineOf 63 = .ok (.iconst 2, 1) := by decide +kernel
theorem dX4_fineOf_64 : decode cX4_fineOf 64 = .ok (.invokevirtual 82, 3) := by decide +kernel
theorem dX4_fineOf_67 : decode cX4_fineOf 67 = .ok (.i2l, 1) := by decide +kernel
theorem dX4_fineOf_68 : decode cX4_fineOf 68 = .ok (.lmul, 1) := by decide +kernel
theorem dX4_fineOf_69 : decode cX4_fineOf 69 = .ok (.invokestatic 317, 3) := by decide +kernel
theorem dX4_fineOf_72 : decode cX4_fineOf 72 = .ok (.l2i, 1) := by decide +kernel
theorem dX4_fineOf_73 : decode cX4_fineOf 73 = .ok (.ireturn, 1) := by decide +kernel
theorem dX4_enter_0 : decode cX4_enter 0 = .ok (.iload_n 3, 1) := by decide +kernel
theorem dX4_enter_1 : decode cX4_enter 1 = .ok (.ifCond .ne 4, 3) := by decide +kernel
theorem dX4_enter_4 : decode cX4_enter 4 = .ok (.return_, 1) := by decide +kernel
theorem dX4_enter_5 : decode cX4_enter 5 = .ok (.iload_n 3, 1) := by decide +kernel
theorem dX4_enter_6 : decode cX4_enter 6 = .ok (.ifCond .le 7, 3) := by decide +kernel
theorem dX4_enter_9 : decode cX4_enter 9 = .ok (.iconst 2, 1) := by decide +kernel
theorem dX4_enter_10 : decode cX4_enter 10 = .ok (.goto 4, 3) := by decide +kernel
theorem dX4_enter_13 : decode cX4_enter 13 = .ok (.iconst 3, 1) := by decide +kernel
theorem dX4_enter_14 : decode cX4_enter 14 = .ok (.istore 5, 2) := by decide +kernel
theorem dX4_enter_16 : decode cX4_enter 16 = .ok (.aload_n 0, 1) := by decide +kernel
theorem dX4_enter_17 : decode cX4_enter 17 = .ok (.getfield 10, 3) := by decide +kernel
theorem dX4_enter_20 : decode cX4_enter 20 = .ok (.getfield 69, 3) := by decide +kernel
theorem dX4_enter_23 : decode cX4_enter 23 = .ok (.iload_n 2, 1) := by decide +kernel
theorem dX4_enter_24 : decode cX4_enter 24 = .ok (.iconst 0, 1) := by decide +kernel
theorem dX4_enter_25 : decode cX4_enter 25 = .ok (.aload_n 0, 1) := by decide +kernel
theorem dX4_enter_26 : decode cX4_enter 26 = .ok (.getfield 10, 3) := by decide +kernel
theorem dX4_enter_29 : decode cX4_enter 29 = .ok (.getfield 69, 3) := by decide +kernel
theorem dX4_enter_32 : decode cX4_enter 32 = .ok (.iload_n 2, 1) := by decide +kernel
theorem dX4_enter_33 : decode cX4_enter 33 = .ok (.iconst 0, 1) := by decide +kernel
theorem dX4_enter_34 : decode cX4_enter 34 = .ok (.invokevirtual 88, 3) := by decide +kernel
theorem dX4_enter_37 : decode cX4_enter 37 = .ok (.iload_n 3, 1) := by decide +kernel
theorem dX4_enter_38 : decode cX4_enter 38 = .ok (.iadd, 1) := by decide +kernel
theorem dX4_enter_39 : decode cX4_enter 39 = .ok (.invokevirtual 57, 3) := by decide +kernel
theorem dX4_enter_42 : decode cX4_enter 42 = .ok (.aload_n 0, 1) := by decide +kernel
theorem dX4_enter_43 : decode cX4_enter 43 = .ok (.getfield 10, 3) := by decide +kernel
theorem dX4_enter_46 : decode cX4_enter 46 = .ok (.getfield 69, 3) := by decide +kernel
theorem dX4_enter_49 : decode cX4_enter 49 = .ok (.iload_n 2, 1) := by decide +kernel
theorem dX4_enter_50 : decode cX4_enter 50 = .ok (.iload 5, 2) := by decide +kernel
theorem dX4_enter_52 : decode cX4_enter 52 = .ok (.aload_n 0, 1) := by decide +kernel
theorem dX4_enter_53 : decode cX4_enter 53 = .ok (.getfield 10, 3) := by decide +kernel
theorem dX4_enter_56 : decode cX4_enter 56 = .ok (.getfield 69, 3) := by decide +kernel
theorem dX4_enter_59 : decode cX4_enter 59 = .ok (.iload_n 2, 1) := by decide +kernel
theorem dX4_enter_60 : decode cX4_enter 60 = .ok (.iload 5, 2) := by decide +kernel
theorem dX4_enter_62 : decode cX4_enter 62 = .ok (.invokevirtual 88, 3) := by decide +kernel
theorem dX4_enter_65 : decode cX4_enter 65 = .ok (.iload_n 3, 1) := by decide +kernel
theorem dX4_enter_66 : decode cX4_enter 66 = .ok (.invokestatic 299, 3) := by decide +kernel
theorem dX4_enter_69 : decode cX4_enter 69 = .ok (.iadd, 1) := by decide +kernel
theorem dX4_enter_70 : decode cX4_enter 70 = .ok (.invokevirtual 57, 3) := by decide +kernel
theorem dX4_enter_73 : decode cX4_enter 73 = .ok (.aload_n 0, 1) := by decide +kernel
theorem dX4_enter_74 : decode cX4_enter 74 = .ok (.getfield 10, 3) := by decide +kernel
theorem dX4_enter_77 : decode cX4_enter 77 = .ok (.getfield 244, 3) := by decide +kernel
theorem dX4_enter_80 : decode cX4_enter 80 = .ok (.invokevirtual 92, 3) := by decide +kernel
theorem dX4_enter_83 : decode cX4_enter 83 = .ok (.bipush 60, 2) := by decide +kernel
theorem dX4_enter_85 : decode cX4_enter 85 = .ok (.if_icmp .ne 14, 3) := by decide +kernel
theorem dX4_enter_88 : decode cX4_enter 88 = .ok (.aload_n 0, 1) := by decide +kernel
theorem dX4_enter_89 : decode cX4_enter 89 = .ok (.getfield 10, 3) := by decide +kernel
theorem dX4_enter_92 : decode cX4_enter 92 = .ok (.getfield 244, 3) := by decide +kernel
theorem dX4_enter_95 : decode cX4_enter 95 = .ok (.iconst 0, 1) := by decide +kernel
theorem dX4_enter_96 : decode cX4_enter 96 = .ok (.invokevirtual 311, 3) := by decide +kernel
theorem dX4_enter_99 : decode cX4_enter 99 = .ok (.aload_n 0, 1) := by decide +kernel
theorem dX4_enter_100 : decode cX4_enter 100 = .ok (.getfield 10, 3) := by decide +kernel
theorem dX4_enter_103 : decode cX4_enter 103 = .ok (.getfield 244, 3) := by decide +kernel
theorem dX4_enter_106 : decode cX4_enter 106 = .ok (.invokevirtual 51, 3) := by decide +kernel
theorem dX4_enter_109 : decode cX4_enter 109 = .ok (.istore 6, 2) := by decide +kernel
theorem dX4_enter_111 : decode cX4_enter 111 = .ok (.aload_n 0, 1) := by decide +kernel
theorem dX4_enter_112 : decode cX4_enter 112 = .ok (.getfield 10, 3) := by decide +kernel
theorem dX4_enter_115 : decode cX4_enter 115 = .ok (.getfield 244, 3) := by decide +kernel
theorem dX4_enter_118 : decode cX4_enter 118 = .ok (.iload 6, 2) := by decide +kernel
theorem dX4_enter_120 : decode cX4_enter 120 = .ok (.iconst 0, 1) := by decide +kernel
theorem dX4_enter_121 : decode cX4_enter 121 = .ok (.iload_n 1, 1) := by decide +kernel
theorem dX4_enter_122 : decode cX4_enter 122 = .ok (.invokevirtual 57, 3) := by decide +kernel
theorem dX4_enter_125 : decode cX4_enter 125 = .ok (.aload_n 0, 1) := by decide +kernel
theorem dX4_enter_126 : decode cX4_enter 126 = .ok (.getfield 10, 3) := by decide +kernel
theorem dX4_enter_129 : decode cX4_enter 129 = .ok (.getfield 244, 3) := by decide +kernel
theorem dX4_enter_132 : decode cX4_enter 132 = .ok (.iload 6, 2) := by decide +kernel
theorem dX4_enter_134 : decode cX4_enter 134 = .ok (.iconst 1, 1) := by decide +kernel
theorem dX4_enter_135 : decode cX4_enter 135 = .ok (.iload_n 2, 1) := by decide +kernel
theorem dX4_enter_136 : decode cX4_enter 136 = .ok (.invokevirtual 57, 3) := by decide +kernel
theorem dX4_enter_139 : decode cX4_enter 139 = .ok (.aload_n 0, 1) := by decide +kernel
theorem dX4_enter_140 : decode cX4_enter 140 = .ok (.getfield 10, 3) := by decide +kernel
theorem dX4_enter_143 : decode cX4_enter 143 = .ok (.getfield 244, 3) := by decide +kernel
theorem dX4_enter_146 : decode cX4_enter 146 = .ok (.iload 6, 2) := by decide +kernel
theorem dX4_enter_148 : decode cX4_enter 148 = .ok (.iconst 2, 1) := by decide +kernel
theorem dX4_enter_149 : decode cX4_enter 149 = .ok (.iload_n 3, 1) := by decide +kernel
theorem dX4_enter_150 : decode cX4_enter 150 = .ok (.invokevirtual 57, 3) := by decide +kernel
theorem dX4_enter_153 : decode cX4_enter 153 = .ok (.aload_n 0, 1) := by decide +kernel
theorem dX4_enter_154 : decode cX4_enter 154 = .ok (.getfield 10, 3) := by decide +kernel
theorem dX4_enter_157 : decode cX4_enter 157 = .ok (.getfield 244, 3) := by decide +kernel
theorem dX4_enter_160 : decode cX4_enter 160 = .ok (.iload 6, 2) := by decide +kernel
theorem dX4_enter_162 : decode cX4_enter 162 = .ok (.iconst 3, 1) := by decide +kernel
theorem dX4_enter_163 : decode cX4_enter 163 = .ok (.iload 4, 2) := by decide +kernel
theorem dX4_enter_165 : decode cX4_enter 165 = .ok (.invokevirtual 57, 3) := by decide +kernel
theorem dX4_enter_168 : decode cX4_enter 168 = .ok (.aload_n 0, 1) := by decide +kernel
theorem dX4_enter_169 : decode cX4_enter 169 = .ok (.getfield 10, 3) := by decide +kernel
theorem dX4_enter_172 : decode cX4_enter 172 = .ok (.getfield 244, 3) := by decide +kernel
theorem dX4_enter_175 : decode cX4_enter 175 = .ok (.iload 6, 2) := by decide +kernel
theorem dX4_enter_177 : decode cX4_enter 177 = .ok (.iconst 4, 1) := by decide +kernel
theorem dX4_enter_178 : decode cX4_enter 178 = .ok (.aload_n 0, 1) := by decide +kernel
theorem dX4_enter_179 : decode cX4_enter 179 = .ok (.getfield 10, 3) := by decide +kernel
theorem dX4_enter_182 : decode cX4_enter 182 = .ok (.getfield 98, 3) := by decide +kernel
theorem dX4_enter_185 : decode cX4_enter 185 = .ok (.invokevirtual 57, 3) := by decide +kernel
theorem dX4_enter_188 : decode cX4_enter 188 = .ok (.return_, 1) := by decide +kernel
end
section
theorem dX5_init_0 : decode cX5_init 0 = .ok (.aload_n 0, 1) := by decide +kernel
theorem dX5_init_1 : decode cX5_init 1 = .ok (.invokespecial 5, 3) := by decide +kernel
theorem dX5_init_4 : decode cX5_init 4 = .ok (.aload_n 0, 1) := by decide +kernel
theorem dX5_init_5 : decode cX5_init 5 = .ok (.sipush 681, 3) := by decide +kernel
theorem dX5_init_8 : decode cX5_init 8 = .ok (.newarray .int, 2) := by decide +kernel
theorem dX5_init_10 : decode cX5_init 10 = .ok (.putfield 11, 3) := by decide +kernel
theorem dX5_init_13 : decode cX5_init 13 = .ok (.aload_n 0, 1) := by decide +kernel
theorem dX5_init_14 : decode cX5_init 14 = .ok (.sipush 681, 3) := by decide +kernel
theorem dX5_init_17 : decode cX5_init 17 = .ok (.newarray .int, 2) := by decide +kernel
theorem dX5_init_19 : decode cX5_init 19 = .ok (.putfield 15, 3) := by decide +kernel
theorem dX5_init_22 : decode cX5_init 22 = .ok (.aload_n 0, 1) := by decide +kernel
theorem dX5_init_23 : decode cX5_init 23 = .ok (.sipush 681, 3) := by decide +kernel
theorem dX5_init_26 : decode cX5_init 26 = .ok (.newarray .int, 2) := by decide +kernel
theorem dX5_init_28 : decode cX5_init 28 = .ok (.putfield 18, 3) := by decide +kernel
theorem dX5_init_31 : decode cX5_init 31 = .ok (.aload_n 0, 1) := by decide +kernel
theorem dX5_init_32 : decode cX5_init 32 = .ok (.sipush 5448, 3) := by decide +kernel
theorem dX5_init_35 : decode cX5_init 35 = .ok (.newarray .int, 2) := by decide +kernel
theorem dX5_init_37 : decode cX5_init 37 = .ok (.putfield 21, 3) := by decide +kernel
theorem dX5_init_40 : decode cX5_init 40 = .ok (.aload_n 0, 1) := by decide +kernel
theorem dX5_init_41 : decode cX5_init 41 = .ok (.iconst 0, 1) := by decide +kernel
theorem dX5_init_42 : decode cX5_init 42 = .ok (.putfield 24, 3) := by decide +kernel
theorem dX5_init_45 : decode cX5_init 45 = .ok (.aload_n 0, 1) := by decide +kernel
theorem dX5_init_46 : decode cX5_init 46 = .ok (.iconst 0, 1) := by decide +kernel
theorem dX5_init_47 : decode cX5_init 47 = .ok (.putfield 28, 3) := by decide +kernel
theorem dX5_init_50 : decode cX5_init 50 = .ok (.aload_n 0, 1) := by decide +kernel
theorem dX5_init_51 : decode cX5_init 51 = .ok (.bipush 60, 2) := by decide +kernel
theorem dX5_init_53 : decode cX5_init 53 = .ok (.newarray .int, 2) := by decide +kernel
theorem dX5_init_55 : decode cX5_init 55 = .ok (.putfield 32, 3) := by decide +kernel
theorem dX5_init_58 : decode cX5_init 58 = .ok (.aload_n 0, 1) := by decide +kernel
theorem dX5_init_59 : decode cX5_init 59 = .ok (.iconst 3, 1) := by decide +kernel
theorem dX5_init_60 : decode cX5_init 60 = .ok (.newarray .int, 2) := by decide +kernel
theorem dX5_init_62 : decode cX5_init 62 = .ok (.putfield 35, 3) := by decide +kernel
theorem dX5_init_65 : decode cX5_init 65 = .ok (.aload_n 0, 1) := by decide +kernel
theorem dX5_init_66 : decode cX5_init 66 = .ok (.iconst 0, 1) := by decide +kernel
theorem dX5_init_67 : decode cX5_init 67 = .ok (.putfield 38, 3) := by decide +kernel
theorem dX5_init_70 : decode cX5_init 70 = .ok (.aload_n 0, 1) := by decide +kernel
theorem dX5_init_71 : decode cX5_init 71 = .ok (.iconst 0, 1) := by decide +kernel
theorem dX5_init_72 : decode cX5_init 72 = .ok (.putfield 41, 3) := by decide +kernel
theorem dX5_init_75 : decode cX5_init 75 = .ok (.aload_n 0, 1) := by decide +kernel
theorem dX5_init_76 : decode cX5_init 76 = .ok (.iconst 0, 1) := by decide +kernel
theorem dX5_init_77 : decode cX5_init 77 = .ok (.putfield 44, 3) := by decide +kernel
theorem dX5_init_80 : decode cX5_init 80 = .ok (.aload_n 0, 1) := by decide +kernel
theorem dX5_init_81 : decode cX5_init 81 = .ok (.getfield 11, 3) := by decide +kernel
theorem dX5_init_84 : decode cX5_init 84 = .ok (.iconst 5, 1) := by decide +kernel
theorem dX5_init_85 : decode cX5_init 85 = .ok (.bipush 14, 2) := by decide +kernel
theorem dX5_init_87 : decode cX5_init 87 = .ok (.iastore, 1) := by decide +kernel
theorem dX5_init_88 : decode cX5_init 88 = .ok (.aload_n 0, 1) := by decide +kernel
theorem dX5_init_89 : decode cX5_init 89 = .ok (.getfield 11, 3) := by decide +kernel
theorem dX5_init_92 : decode cX5_init 92 = .ok (.bipush 6, 2) := by decide +kernel
theorem dX5_init_94 : decode cX5_init 94 = .ok (.iconst 5, 1) := by decide +kernel
theorem dX5_init_95 : decode cX5_init 95 = .ok (.iastore, 1) := by decide +kernel
theorem dX5_init_96 : decode cX5_init 96 = .ok (.aload_n 0, 1) := by decide +kernel
theorem dX5_init_97 : decode cX5_init 97 = .ok (.getfield 11, 3) := by decide +kernel
theorem dX5_init_100 : decode cX5_init 100 = .ok (.bipush 7, 2) := by decide +kernel
theorem dX5_init_102 : decode cX5_init 102 = .ok (.bipush 25, 2) := by decide +kernel
theorem dX5_init_104 : decode cX5_init 104 = .ok (.iastore, 1) := by decide +kernel
theorem dX5_init_105 : decode cX5_init 105 = .ok (.aload_n 0, 1) := by decide +kernel
theorem dX5_init_106 : decode cX5_init 106 = .ok (.getfield 11, 3) := by decide +kernel
theorem dX5_init_109 : decode cX5_init 109 = .ok (.bipush 8, 2) := by decide +kernel
theorem dX5_init_111 : decode cX5_init 111 = .ok (.sipush 500, 3) := by decide +kernel
theorem dX5_init_114 : decode cX5_init 114 = .ok (.iastore, 1) := by decide +kernel
theorem dX5_init_115 : decode cX5_init 115 = .ok (.aload_n 0, 1) := by decide +kernel
theorem dX5_init_116 : decode cX5_init 116 = .ok (.getfield 11, 3) := by decide +kernel
theorem dX5_init_119 : decode cX5_init 119 = .ok (.bipush 9, 2) := by decide +kernel
theorem dX5_init_121 : decode cX5_init 121 = .ok (.sipush 1000, 3) := by decide +kernel
theorem dX5_init_124 : decode cX5_init 124 = .ok (.iastore, 1) := by decide +kernel
theorem dX5_init_125 : decode cX5_init 125 = .ok (.aload_n 0, 1) := by decide +kernel
theorem dX5_init_126 : decode cX5_init 126 = .ok (.getfield 11, 3) := by decide +kernel
theorem dX5_init_129 : decode cX5_init 129 = .ok (.bipush 10, 2) := by decide +kernel
theorem dX5_init_131 : decode cX5_init 131 = .ok (.bipush 7, 2) := by decide +kernel
theorem dX5_init_133 : decode cX5_init 133 = .ok (.iastore, 1) := by decide +kernel
theorem dX5_init_134 : decode cX5_init 134 = .ok (.aload_n 0, 1) := by decide +kernel
theorem dX5_init_135 : decode cX5_init 135 = .ok (.getfield 11, 3) := by decide +kernel
theorem dX5_init_138 : decode cX5_init 138 = .ok (.bipush 11, 2) := by decide +kernel
theorem dX5_init_140 : decode cX5_init 140 = .ok (.sipush 3000, 3) := by decide +kernel
theorem dX5_init_143 : decode cX5_init 143 = .ok (.iastore, 1) := by decide +kernel
theorem dX5_init_144 : decode cX5_init 144 = .ok (.aload_n 0, 1) := by decide +kernel
theorem dX5_init_145 : decode cX5_init 145 = .ok (.getfield 11, 3) := by decide +kernel
theorem dX5_init_148 : decode cX5_init 148 = .ok (.bipush 12, 2) := by decide +kernel
theorem dX5_init_150 : decode cX5_init 150 = .ok (.bipush 60, 2) := by decide +kernel
theorem dX5_init_152 : decode cX5_init 152 = .ok (.iastore, 1) := by decide +kernel
theorem dX5_init_153 : decode cX5_init 153 = .ok (.return_, 1) := by decide +kernel
theorem dX5_in_0 : decode cX5_in 0 = .ok (.iload_n 0, 1) := by decide +kernel
theorem dX5_in_1 : decode cX5_in 1 = .ok (.iload_n 1, 1) := by decide +kernel
theorem dX5_in_2 : decode cX5_in 2 = .ok (.if_icmp .lt 12, 3) := by decide +kernel
theorem dX5_in_5 : decode cX5_in 5 = .ok (.iload_n 0, 1) := by decide +kernel
theorem dX5_in_6 : decode cX5_in 6 = .ok (.iload_n 2, 1) := by decide +kernel
theorem dX5_in_7 : decode cX5_in 7 = .ok (.if_icmp .gt 7, 3) := by decide +kernel
theorem dX5_in_10 : decode cX5_in 10 = .ok (.iconst 1, 1) := by decide +kernel
theorem dX5_in_11 : decode cX5_in 11 = .ok (.goto 4, 3) := by decide +kernel
theorem dX5_in_14 : decode cX5_in 14 = .ok (.iconst 0, 1) := by decide +kernel
theorem dX5_in_15 : decode cX5_in 15 = .ok (.ireturn, 1) := by decide +kernel
theorem dX5_copies_0 : decode cX5_copies 0 = .ok (.iconst 0, 1) := by decide +kernel
theorem dX5_copies_1 : decode cX5_copies 1 = .ok (.istore 4, 2) := by decide +kernel
theorem dX5_copies_3 : decode cX5_copies 3 = .ok (.iload 4, 2) := by decide +kernel
theorem dX5_copies_5 : decode cX5_copies 5 = .ok (.sipush 681, 3) := by decide +kernel
theorem dX5_copies_8 : decode cX5_copies 8 = .ok (.if_icmp .ge 21, 3) := by decide +kernel
theorem dX5_copies_11 : decode cX5_copies 11 = .ok (.aload_n 2, 1) := by decide +kernel
theorem dX5_copies_12 : decode cX5_copies 12 = .ok (.iload_n 3, 1) := by decide +kernel
theorem dX5_copies_13 : decode cX5_copies 13 = .ok (.iload 4, 2) := by decide +kernel
theorem dX5_copies_15 : decode cX5_copies 15 = .ok (.iadd, 1) := by decide +kernel
theorem dX5_copies_16 : decode cX5_copies 16 = .ok (.aload_n 0, 1) := by decide +kernel
theorem dX5_copies_17 : decode cX5_copies 17 = .ok (.iload_n 1, 1) := by decide +kernel
theorem dX5_copies_18 : decode cX5_copies 18 = .ok (.iload 4, 2) := by decide +kernel
theorem dX5_copies_20 : decode cX5_copies 20 = .ok (.iadd, 1) := by decide +kernel
theorem dX5_copies_21 : decode cX5_copies 21 = .ok (.iaload, 1) := by decide +kernel
theorem dX5_copies_22 : decode cX5_copies 22 = .ok (.iastore, 1) := by decide +kernel
theorem dX5_copies_23 : decode cX5_copies 23 = .ok (.iinc 4 1, 3) := by decide +kernel
theorem dX5_copies_26 : decode cX5_copies 26 = .ok (.goto (-23), 3) := by decide +kernel
theorem dX5_copies_29 : decode cX5_copies 29 = .ok (.return_, 1) := by decide +kernel
theorem dX5_keeps_0 : decode cX5_keeps 0 = .ok (.aload_n 0, 1) := by decide +kernel
theorem dX5_keeps_1 : decode cX5_keeps 1 = .ok (.getfield 11, 3) := by decide +kernel
theorem dX5_keeps_4 : decode cX5_keeps 4 = .ok (.iconst 0, 1) := by decide +kernel
theorem dX5_keeps_5 : decode cX5_keeps 5 = .ok (.aload_n 0, 1) := by decide +kernel
theorem dX5_keeps_6 : decode cX5_keeps 6 = .ok (.getfield 15, 3) := by decide +kernel
theorem dX5_keeps_9 : decode cX5_keeps 9 = .ok (.iconst 0, 1) := by decide +kernel
theorem dX5_keeps_10 : decode cX5_keeps 10 = .ok (.invokestatic 47, 3) := by decide +kernel
theorem dX5_keeps_13 : decode cX5_keeps 13 = .ok (.return_, 1) := by decide +kernel
theorem dX5_made_0 : decode cX5_made 0 = .ok (.iload_n 1, 1) := by decide +kernel
theorem dX5_made_1 : decode cX5_made 1 = .ok (.ifCond .ge 5, 3) := by decide +kernel
theorem dX5_made_4 : decode cX5_made 4 = .ok (.iload_n 1, 1) := by decide +kernel
theorem dX5_made_5 : decode cX5_made 5 = .ok (.ireturn, 1) := by decide +kernel
theorem dX5_made_6 : decode cX5_made 6 = .ok (.aload_n 0, 1) := by decide +kernel
theorem dX5_made_7 : decode cX5_made 7 = .ok (.getfield 24, 3) := by decide +kernel
theorem dX5_made_10 : decode cX5_made 10 = .ok (.bipush 8, 2) := by decide +kernel
theorem dX5_made_12 : decode cX5_made 12 = .ok (.if_icmp .ne 50, 3) := by decide +kernel
theorem dX5_made_15 : decode cX5_made 15 = .ok (.iconst 1, 1) := by decide +kernel
theorem dX5_made_16 : decode cX5_made 16 = .ok (.istore_n 2, 1) := by decide +kernel
theorem dX5_made_17 : decode cX5_made 17 = .ok (.iload_n 2, 1) := by decide +kernel
theorem dX5_made_18 : decode cX5_made 18 = .ok (.bipush 8, 2) := by decide +kernel
theorem dX5_made_20 : decode cX5_made 20 = .ok (.if_icmp .ge 32, 3) := by decide +kernel
theorem dX5_made_23 : decode cX5_made 23 = .ok (.aload_n 0, 1) := by decide +kernel
theorem dX5_made_24 : decode cX5_made 24 = .ok (.getfield 21, 3) := by decide +kernel
theorem dX5_made_27 : decode cX5_made 27 = .ok (.sipush 681, 3) := by decide +kernel
theorem dX5_made_30 : decode cX5_made 30 = .ok (.iload_n 2, 1) := by decide +kernel
theorem dX5_made_31 : decode cX5_made 31 = .ok (.imul, 1) := by decide +kernel
theorem dX5_made_32 : decode cX5_made 32 = .ok (.aload_n 0, 1) := by decide +kernel
theorem dX5_made_33 : decode cX5_made 33 = .ok (.getfield 21, 3) := by decide +kernel
theorem dX5_made_36 : decode cX5_made 36 = .ok (.sipush 681, 3) := by decide +kernel
theorem dX5_made_39 : decode cX5_made 39 = .ok (.iload_n 2, 1) := by decide +kernel
theorem dX5_made_40 : decode cX5_made 40 = .ok (.iconst 1, 1) := by decide +kernel
theorem dX5_made_41 : decode cX5_made 41 = .ok (.isub, 1) := by decide +kernel
theorem dX5_made_42 : decode cX5_made 42 = .ok (.imul, 1) := by decide +kernel
theorem dX5_made_43 : decode cX5_made 43 = .ok (.invokestatic 47, 3) := by decide +kernel
theorem dX5_made_46 : decode cX5_made 46 = .ok (.iinc 2 1, 3) := by decide +kernel
theorem dX5_made_49 : decode cX5_made 49 = .ok (.goto (-32), 3) := by decide +kernel
theorem dX5_made_52 : decode cX5_made 52 = .ok (.aload_n 0, 1) := by decide +kernel
theorem dX5_made_53 : decode cX5_made 53 = .ok (.dup, 1) := by decide +kernel
theorem dX5_made_54 : decode cX5_made 54 = .ok (.getfield 24, 3) := by decide +kernel
theorem dX5_made_57 : decode cX5_made 57 = .ok (.iconst 1, 1) := by decide +kernel
theorem dX5_made_58 : decode cX5_made 58 = .ok (.isub, 1) := by decide +kernel
theorem dX5_made_59 : decode cX5_made 59 = .ok (.putfield 24, 3) := by decide +kernel
theorem dX5_made_62 : decode cX5_made 62 = .ok (.aload_n 0, 1) := by decide +kernel
theorem dX5_made_63 : decode cX5_made 63 = .ok (.getfield 15, 3) := by decide +kernel
theorem dX5_made_66 : decode cX5_made 66 = .ok (.iconst 0, 1) := by decide +kernel
theorem dX5_made_67 : decode cX5_made 67 = .ok (.aload_n 0, 1) := by decide +kernel
theorem dX5_made_68 : decode cX5_made 68 = .ok (.getfield 21, 3) := by decide +kernel
theorem dX5_made_71 : decode cX5_made 71 = .ok (.sipush 681, 3) := by decide +kernel
theorem dX5_made_74 : decode cX5_made 74 = .ok (.aload_n 0, 1) := by decide +kernel
theorem dX5_made_75 : decode cX5_made 75 = .ok (.getfield 24, 3) := by decide +kernel
theorem dX5_made_78 : decode cX5_made 78 = .ok (.imul, 1) := by decide +kernel
theorem dX5_made_79 : decode cX5_made 79 = .ok (.invokestatic 47, 3) := by decide +kernel
theorem dX5_made_82 : decode cX5_made 82 = .ok (.aload_n 0, 1) := by decide +kernel
theorem dX5_made_83 : decode cX5_made 83 = .ok (.dup, 1) := by decide +kernel
theorem dX5_made_84 : decode cX5_made 84 = .ok (.getfield 24, 3) := by decide +kernel
theorem dX5_made_87 : decode cX5_made 87 = .ok (.iconst 1, 1) := by decide +kernel
theorem dX5_made_88 : decode cX5_made 88 = .ok (.iadd, 1) := by decide +kernel
theorem dX5_made_89 : decode cX5_made 89 = .ok (.putfield 24, 3) := by decide +kernel
theorem dX5_made_92 : decode cX5_made 92 = .ok (.iload_n 1, 1) := by decide +kernel
theorem dX5_made_93 : decode cX5_made 93 = .ok (.ireturn, 1) := by decide +kernel
theorem dX5_isCopy_0 : decode cX5_isCopy 0 = .ok (.iload_n 1, 1) := by decide +kernel
theorem dX5_isCopy_1 : decode cX5_isCopy 1 = .ok (.iconst 0, 1) := by decide +kernel
theorem dX5_isCopy_2 : decode cX5_isCopy 2 = .ok (.aload_n 0, 1) := by decide +kernel
theorem dX5_isCopy_3 : decode cX5_isCopy 3 = .ok (.getfield 11, 3) := by decide +kernel
theorem dX5_isCopy_6 : decode cX5_isCopy 6 = .ok (.iconst 1, 1) := by decide +kernel
theorem dX5_isCopy_7 : decode cX5_isCopy 7 = .ok (.iaload, 1) := by decide +kernel
theorem dX5_isCopy_8 : decode cX5_isCopy 8 = .ok (.iconst 1, 1) := by decide +kernel
theorem dX5_isCopy_9 : decode cX5_isCopy 9 = .ok (.isub, 1) := by decide +kernel
theorem dX5_isCopy_10 : decode cX5_isCopy 10 = .ok (.invokestatic 51, 3) := by decide +kernel
theorem dX5_isCopy_13 : decode cX5_isCopy 13 = .ok (.ireturn, 1) := by decide +kernel
theorem dX5_isPatron_0 : decode cX5_isPatron 0 = .ok (.iload_n 1, 1) := by decide +kernel
theorem dX5_isPatron_1 : decode cX5_isPatron 1 = .ok (.iconst 0, 1) := by decide +kernel
theorem dX5_isPatron_2 : decode cX5_isPatron 2 = .ok (.aload_n 0, 1) := by decide +kernel
theorem dX5_isPatron_3 : decode cX5_isPatron 3 = .ok (.getfield 11, 3) := by decide +kernel
theorem dX5_isPatron_6 : decode cX5_isPatron 6 = .ok (.iconst 2, 1) := by decide +kernel
theorem dX5_isPatron_7 : decode cX5_isPatron 7 = .ok (.iaload, 1) := by decide +kernel
theorem dX5_isPatron_8 : decode cX5_isPatron 8 = .ok (.iconst 1, 1) := by decide +kernel
theorem dX5_isPatron_9 : decode cX5_isPatron 9 = .ok (.isub, 1) := by decide +kernel
theorem dX5_isPatron_10 : decode cX5_isPatron 10 = .ok (.invokestatic 51, 3) := by decide +kernel
theorem dX5_isPatron_13 : decode cX5_isPatron 13 = .ok (.ireturn, 1) := by decide +kernel
theorem dX5_isTitle_0 : decode cX5_isTitle 0 = .ok (.iload_n 0, 1) := by decide +kernel
theorem dX5_isTitle_1 : decode cX5_isTitle 1 = .ok (.iconst 0, 1) := by decide +kernel
theorem dX5_isTitle_2 : decode cX5_isTitle 2 = .ok (.iconst 5, 1) := by decide +kernel
theorem dX5_isTitle_3 : decode cX5_isTitle 3 = .ok (.invokestatic 51, 3) := by decide +kernel
theorem dX5_isTitle_6 : decode cX5_isTitle 6 = .ok (.ireturn, 1) := by decide +kernel
theorem dX5_isBranch_0 : decode cX5_isBranch 0 = .ok (.iload_n 0, 1) := by decide +kernel
theorem dX5_isBranch_1 : decode cX5_isBranch 1 = .ok (.iconst 0, 1) := by decide +kernel
theorem dX5_isBranch_2 : decode cX5_isBranch 2 = .ok (.iconst 3, 1) := by decide +kernel
theorem dX5_isBranch_3 : decode cX5_isBranch 3 = .ok (.invokestatic 51, 3) := by decide +kernel
theorem dX5_isBranch_6 : decode cX5_isBranch 6 = .ok (.ireturn, 1) := by decide +kernel
theorem dX5_of_0 : decode cX5_of 0 = .ok (.aload_n 0, 1) := by decide +kernel
theorem dX5_of_1 : decode cX5_of 1 = .ok (.getfield 11, 3) := by decide +kernel
theorem dX5_of_4 : decode cX5_of 4 = .ok (.bipush 13, 2) := by decide +kernel
theorem dX5_of_6 : decode cX5_of 6 = .ok (.bipush 12, 2) := by decide +kernel
theorem dX5_of_8 : decode cX5_of 8 = .ok (.iload_n 1, 1) := by decide +kernel
theorem dX5_of_9 : decode cX5_of 9 = .ok (.imul, 1) := by decide +kernel
theorem dX5_of_10 : decode cX5_of 10 = .ok (.iadd, 1) := by decide +kernel
theorem dX5_of_11 : decode cX5_of 11 = .ok (.iload_n 2, 1) := by decide +kernel
theorem dX5_of_12 : decode cX5_of 12 = .ok (.iadd, 1) := by decide +kernel
theorem dX5_of_13 : decode cX5_of 13 = .ok (.iaload, 1) := by decide +kernel
theorem dX5_of_14 : decode cX5_of 14 = .ok (.ireturn, 1) := by decide +kernel
theorem dX5_puts_0 : decode cX5_puts 0 = .ok (.aload_n 0, 1) := by decide +kernel
theorem dX5_puts_1 : decode cX5_puts 1 = .ok (.getfield 11, 3) := by decide +kernel
theorem dX5_puts_4 : decode cX5_puts 4 = .ok (.bipush 13, 2) := by decide +kernel
theorem dX5_puts_6 : decode cX5_puts 6 = .ok (.bipush 12, 2) := by decide +kernel
theorem dX5_puts_8 : decode cX5_puts 8 = .ok (.iload_n 1, 1) := by decide +kernel
theorem dX5_puts_9 : decode cX5_puts 9 = .ok (.imul, 1) := by decide +kernel
theorem dX5_puts_10 : decode cX5_puts 10 = .ok (.iadd, 1) := by decide +kernel
theorem dX5_puts_11 : decode cX5_puts 11 = .ok (.iload_n 2, 1) := by decide +kernel
theorem dX5_puts_12 : decode cX5_puts 12 = .ok (.iadd, 1) := by decide +kernel
theorem dX5_puts_13 : decode cX5_puts 13 = .ok (.iload_n 3, 1) := by decide +kernel
theorem dX5_puts_14 : decode cX5_puts 14 = .ok (.iastore, 1) := by decide +kernel
theorem dX5_puts_15 : decode cX5_puts 15 = .ok (.return_, 1) := by decide +kernel
theorem dX5_turns_0 : decode cX5_turns 0 = .ok (.aload_n 0, 1) := by decide +kernel
theorem dX5_turns_1 : decode cX5_turns 1 = .ok (.iload_n 1, 1) := by decide +kernel
theorem dX5_turns_2 : decode cX5_turns 2 = .ok (.iconst 3, 1) := by decide +kernel
theorem dX5_turns_3 : decode cX5_turns 3 = .ok (.iload_n 2, 1) := by decide +kernel
theorem dX5_turns_4 : decode cX5_turns 4 = .ok (.invokevirtual 55, 3) := by decide +kernel
theorem dX5_turns_7 : decode cX5_turns 7 = .ok (.aload_n 0, 1) := by decide +kernel
theorem dX5_turns_8 : decode cX5_turns 8 = .ok (.iload_n 1, 1) := by decide +kernel
theorem dX5_turns_9 : decode cX5_turns 9 = .ok (.iconst 4, 1) := by decide +kernel
theorem dX5_turns_10 : decode cX5_turns 10 = .ok (.iload_n 3, 1) := by decide +kernel
theorem dX5_turns_11 : decode cX5_turns 11 = .ok (.invokevirtual 55, 3) := by decide +kernel
theorem dX5_turns_14 : decode cX5_turns 14 = .ok (.aload_n 0, 1) := by decide +kernel
theorem dX5_turns_15 : decode cX5_turns 15 = .ok (.iload_n 1, 1) := by decide +kernel
theorem dX5_turns_16 : decode cX5_turns 16 = .ok (.iconst 5, 1) := by decide +kernel
theorem dX5_turns_17 : decode cX5_turns 17 = .ok (.iload 4, 2) := by decide +kernel
theorem dX5_turns_19 : decode cX5_turns 19 = .ok (.invokevirtual 55, 3) := by decide +kernel
theorem dX5_turns_22 : decode cX5_turns 22 = .ok (.return_, 1) := by decide +kernel
theorem dX5_hold_0 : decode cX5_hold 0 = .ok (.aload_n 0, 1) := by decide +kernel
theorem dX5_hold_1 : decode cX5_hold 1 = .ok (.getfield 11, 3) := by decide +kernel
theorem dX5_hold_4 : decode cX5_hold 4 = .ok (.sipush 285, 3) := by decide +kernel
theorem dX5_hold_7 : decode cX5_hold 7 = .ok (.iconst 4, 1) := by decide +kernel
theorem dX5_hold_8 : decode cX5_hold 8 = .ok (.iload_n 1, 1) := by decide +kernel
theorem dX5_hold_9 : decode cX5_hold 9 = .ok (.imul, 1) := by decide +kernel
theorem dX5_hold_10 : decode cX5_hold 10 = .ok (.iadd, 1) := by decide +kernel
theorem dX5_hold_11 : decode cX5_hold 11 = .ok (.iload_n 2, 1) := by decide +kernel
theorem dX5_hold_12 : decode cX5_hold 12 = .ok (.iadd, 1) := by decide +kernel
theorem dX5_hold_13 : decode cX5_hold 13 = .ok (.iaload, 1) := by decide +kernel
theorem dX5_hold_14 : decode cX5_hold 14 = .ok (.ireturn, 1) := by decide +kernel
theorem dX5_holdOf_0 : decode cX5_holdOf 0 = .ok (.iconst 0, 1) := by decide +kernel
theorem dX5_holdOf_1 : decode cX5_holdOf 1 = .ok (.istore_n 2, 1) := by decide +kernel
theorem dX5_holdOf_2 : decode cX5_holdOf 2 = .ok (.iload_n 2, 1) := by decide +kernel
theorem dX5_holdOf_3 : decode cX5_holdOf 3 = .ok (.aload_n 0, 1) := by decide +kernel
theorem dX5_holdOf_4 : decode cX5_holdOf 4 = .ok (.getfield 11, 3) := by decide +kernel
theorem dX5_holdOf_7 : decode cX5_holdOf 7 = .ok (.iconst 3, 1) := by decide +kernel
theorem dX5_holdOf_8 : decode cX5_holdOf 8 = .ok (.iaload, 1) := by decide +kernel
theorem dX5_holdOf_9 : decode cX5_holdOf 9 = .ok (.if_icmp .ge 21, 3) := by decide +kernel
theorem dX5_holdOf_12 : decode cX5_holdOf 12 = .ok (.aload_n 0, 1) := by decide +kernel
theorem dX5_holdOf_13 : decode cX5_holdOf 13 = .ok (.iload_n 2, 1) := by decide +kernel
theorem dX5_holdOf_14 : decode cX5_holdOf 14 = .ok (.iconst 3, 1) := by decide +kernel
theorem dX5_holdOf_15 : decode cX5_holdOf 15 = .ok (.invokevirtual 59, 3) := by decide +kernel
theorem dX5_holdOf_18 : decode cX5_holdOf 18 = .ok (.iload_n 1, 1) := by decide +kernel
theorem dX5_holdOf_19 : decode cX5_holdOf 19 = .ok (.if_icmp .ne 5, 3) := by decide +kernel
theorem dX5_holdOf_22 : decode cX5_holdOf 22 = .ok (.iload_n 2, 1) := by decide +kernel
theorem dX5_holdOf_23 : decode cX5_holdOf 23 = .ok (.ireturn, 1) := by decide +kernel
theorem dX5_holdOf_24 : decode cX5_holdOf 24 = .ok (.iinc 2 1, 3) := by decide +kernel
theorem dX5_holdOf_27 : decode cX5_holdOf 27 = .ok (.goto (-25), 3) := by decide +kernel
theorem dX5_holdOf_30 : decode cX5_holdOf 30 = .ok (.bipush (-2), 2) := by decide +kernel
theorem dX5_holdOf_32 : decode cX5_holdOf 32 = .ok (.ireturn, 1) := by decide +kernel
theorem dX5_holdBy_0 : decode cX5_holdBy 0 = .ok (.iconst 0, 1) := by decide +kernel
theorem dX5_holdBy_1 : decode cX5_holdBy 1 = .ok (.istore_n 3, 1) := by decide +kernel
theorem dX5_holdBy_2 : decode cX5_holdBy 2 = .ok (.iload_n 3, 1) := by decide +kernel
theorem dX5_holdBy_3 : decode cX5_holdBy 3 = .ok (.aload_n 0, 1) := by decide +kernel
theorem dX5_holdBy_4 : decode cX5_holdBy 4 = .ok (.getfield 11, 3) := by decide +kernel
theorem dX5_holdBy_7 : decode cX5_holdBy 7 = .ok (.iconst 3, 1) := by decide +kernel
theorem dX5_holdBy_8 : decode cX5_holdBy 8 = .ok (.iaload, 1) := by decide +kernel
theorem dX5_holdBy_9 : decode cX5_holdBy 9 = .ok (.if_icmp .ge 31, 3) := by decide +kernel
theorem dX5_holdBy_12 : decode cX5_holdBy 12 = .ok (.aload_n 0, 1) := by decide +kernel
theorem dX5_holdBy_13 : decode cX5_holdBy 13 = .ok (.iload_n 3, 1) := by decide +kernel
theorem dX5_holdBy_14 : decode cX5_holdBy 14 = .ok (.iconst 0, 1) := by decide +kernel
theorem dX5_holdBy_15 : decode cX5_holdBy 15 = .ok (.invokevirtual 59, 3) := by decide +kernel
theorem dX5_holdBy_18 : decode cX5_holdBy 18 = .ok (.iload_n 2, 1) := by decide +kernel
theorem dX5_holdBy_19 : decode cX5_holdBy 19 = .ok (.if_icmp .ne 15, 3) := by decide +kernel
theorem dX5_holdBy_22 : decode cX5_holdBy 22 = .ok (.aload_n 0, 1) := by decide +kernel
theorem dX5_holdBy_23 : decode cX5_holdBy 23 = .ok (.iload_n 3, 1) := by decide +kernel
theorem dX5_holdBy_24 : decode cX5_holdBy 24 = .ok (.iconst 1, 1) := by decide +kernel
theorem dX5_holdBy_25 : decode cX5_holdBy 25 = .ok (.invokevirtual 59, 3) := by decide +kernel
theorem dX5_holdBy_28 : decode cX5_holdBy 28 = .ok (.iload_n 1, 1) := by decide +kernel
theorem dX5_holdBy_29 : decode cX5_holdBy 29 = .ok (.if_icmp .ne 5, 3) := by decide +kernel
theorem dX5_holdBy_32 : decode cX5_holdBy 32 = .ok (.iload_n 3, 1) := by decide +kernel
theorem dX5_holdBy_33 : decode cX5_holdBy 33 = .ok (.ireturn, 1) := by decide +kernel
theorem dX5_holdBy_34 : decode cX5_holdBy 34 = .ok (.iinc 3 1, 3) := by decide +kernel
theorem dX5_holdBy_37 : decode cX5_holdBy 37 = .ok (.goto (-35), 3) := by decide +kernel
theorem dX5_holdBy_40 : decode cX5_holdBy 40 = .ok (.bipush (-2), 2) := by decide +kernel
theorem dX5_holdBy_42 : decode cX5_holdBy 42 = .ok (.ireturn, 1) := by decide +kernel
theorem dX5_firstWaiting_0 : decode cX5_firstWaiting 0 = .ok (.iconst 0, 1) := by decide +kernel
theorem dX5_firstWaiting_1 : decode cX5_firstWaiting 1 = .ok (.istore_n 2, 1) := by decide +kernel
theorem dX5_firstWaiting_2 : decode cX5_firstWaiting 2 = .ok (.iload_n 2, 1) := by decide +kernel
theorem dX5_firstWaiting_3 : decode cX5_firstWaiting 3 = .ok (.aload_n 0, 1) := by decide +kernel
theorem dX5_firstWaiting_4 : decode cX5_firstWaiting 4 = .ok (.getfield 11, 3) := by decide +kernel
theorem dX5_firstWaiting_7 : decode cX5_firstWaiting 7 = .ok (.iconst 3, 1) := by decide +kernel
theorem dX5_firstWaiting_8 : decode cX5_firstWaiting 8 = .ok (.iaload, 1) := by decide +kernel
theorem dX5_firstWaiting_9 : decode cX5_firstWaiting 9 = .ok (.if_icmp .ge 32, 3) := by decide +kernel
theorem dX5_firstWaiting_12 : decode cX5_firstWaiting 12 = .ok (.aload_n 0, 1) := by decide +kernel
theorem dX5_firstWaiting_13 : decode cX5_firstWaiting 13 = .ok (.iload_n 2, 1) := by decide +kernel
theorem dX5_firstWaiting_14 : decode cX5_firstWaiting 14 = .ok (.iconst 0, 1) := by decide +kernel
theorem dX5_firstWaiting_15 : decode cX5_firstWaiting 15 = .ok (.invokevirtual 59, 3) := by decide +kernel
theorem dX5_firstWaiting_18 : decode cX5_firstWaiting 18 = .ok (.iload_n 1, 1) := by decide +kernel
theorem dX5_firstWaiting_19 : decode cX5_firstWaiting 19 = .ok (.if_icmp .ne 16, 3) := by decide +kernel
theorem dX5_firstWaiting_22 : decode cX5_firstWaiting 22 = .ok (.aload_n 0, 1) := by decide +kernel
theorem dX5_firstWaiting_23 : decode cX5_firstWaiting 23 = .ok (.iload_n 2, 1) := by decide +kernel
theorem dX5_firstWaiting_24 : decode cX5_firstWaiting 24 = .ok (.iconst 3, 1) := by decide +kernel
theorem dX5_firstWaiting_25 : decode cX5_firstWaiting 25 = .ok (.invokevirtual 59, 3) := by decide +kernel
theorem dX5_firstWaiting_28 : decode cX5_firstWaiting 28 = .ok (.bipush (-2), 2) := by decide +kernel
theorem dX5_firstWaiting_30 : decode cX5_firstWaiting 30 = .ok (.if_icmp .ne 5, 3) := by decide +kernel
theorem dX5_firstWaiting_33 : decode cX5_firstWaiting 33 = .ok (.iload_n 2, 1) := by decide +kernel
theorem dX5_firstWaiting_34 : decode cX5_firstWaiting 34 = .ok (.ireturn, 1) := by decide +kernel
theorem dX5_firstWaiting_35 : decode cX5_firstWaiting 35 = .ok (.iinc 2 1, 3) := by decide +kernel
theorem dX5_firstWaiting_38 : decode cX5_firstWaiting 38 = .ok (.goto (-36), 3) := by decide +kernel
theorem dX5_firstWaiting_41 : decode cX5_firstWaiting 41 = .ok (.bipush (-2), 2) := by decide +kernel
theorem dX5_firstWaiting_43 : decode cX5_firstWaiting 43 = .ok (.ireturn, 1) := by decide +kernel
theorem dX5_holds_0 : decode cX5_holds 0 = .ok (.iconst 0, 1) := by decide +kernel
theorem dX5_holds_1 : decode cX5_holds 1 = .ok (.istore_n 2, 1) := by decide +kernel
theorem dX5_holds_2 : decode cX5_holds 2 = .ok (.iconst 0, 1) := by decide +kernel
theorem dX5_holds_3 : decode cX5_holds 3 = .ok (.istore_n 3, 1) := by decide +kernel
theorem dX5_holds_4 : decode cX5_holds 4 = .ok (.iload_n 3, 1) := by decide +kernel
theorem dX5_holds_5 : decode cX5_holds 5 = .ok (.aload_n 0, 1) := by decide +kernel
theorem dX5_holds_6 : decode cX5_holds 6 = .ok (.getfield 11, 3) := by decide +kernel
theorem dX5_holds_9 : decode cX5_holds 9 = .ok (.iconst 3, 1) := by decide +kernel
theorem dX5_holds_10 : decode cX5_holds 10 = .ok (.iaload, 1) := by decide +kernel
theorem dX5_holds_11 : decode cX5_holds 11 = .ok (.if_icmp .ge 31, 3) := by decide +kernel
theorem dX5_holds_14 : decode cX5_holds 14 = .ok (.iload_n 2, 1) := by decide +kernel
theorem dX5_holds_15 : decode cX5_holds 15 = .ok (.iload_n 1, 1) := by decide +kernel
theorem dX5_holds_16 : decode cX5_holds 16 = .ok (.ifCond .lt 13, 3) := by decide +kernel
theorem dX5_holds_19 : decode cX5_holds 19 = .ok (.aload_n 0, 1) := by decide +kernel
theorem dX5_holds_20 : decode cX5_holds 20 = .ok (.iload_n 3, 1) := by decide +kernel
theorem dX5_holds_21 : decode cX5_holds 21 = .ok (.iconst 0, 1) := by decide +kernel
theorem dX5_holds_22 : decode cX5_holds 22 = .ok (.invokevirtual 59, 3) := by decide +kernel
theorem dX5_holds_25 : decode cX5_holds 25 = .ok (.iload_n 1, 1) := by decide +kernel
theorem dX5_holds_26 : decode cX5_holds 26 = .ok (.if_icmp .ne 7, 3) := by decide +kernel
theorem dX5_holds_29 : decode cX5_holds 29 = .ok (.iconst 1, 1) := by decide +kernel
theorem dX5_holds_30 : decode cX5_holds 30 = .ok (.goto 4, 3) := by decide +kernel
theorem dX5_holds_33 : decode cX5_holds 33 = .ok (.iconst 0, 1) := by decide +kernel
theorem dX5_holds_34 : decode cX5_holds 34 = .ok (.iadd, 1) := by decide +kernel
theorem dX5_holds_35 : decode cX5_holds 35 = .ok (.istore_n 2, 1) := by decide +kernel
theorem dX5_holds_36 : decode cX5_holds 36 = .ok (.iinc 3 1, 3) := by decide +kernel
theorem dX5_holds_39 : decode cX5_holds 39 = .ok (.goto (-35), 3) := by decide +kernel
theorem dX5_holds_42 : decode cX5_holds 42 = .ok (.iload_n 2, 1) := by decide +kernel
theorem dX5_holds_43 : decode cX5_holds 43 = .ok (.ireturn, 1) := by decide +kernel
theorem dX5_waitingFor_0 : decode cX5_waitingFor 0 = .ok (.iconst 0, 1) := by decide +kernel
theorem dX5_waitingFor_1 : decode cX5_waitingFor 1 = .ok (.istore_n 2, 1) := by decide +kernel
theorem dX5_waitingFor_2 : decode cX5_waitingFor 2 = .ok (.iconst 0, 1) := by decide +kernel
theorem dX5_waitingFor_3 : decode cX5_waitingFor 3 = .ok (.istore_n 3, 1) := by decide +kernel
theorem dX5_waitingFor_4 : decode cX5_waitingFor 4 = .ok (.iload_n 3, 1) := by decide +kernel
theorem dX5_waitingFor_5 : decode cX5_waitingFor 5 = .ok (.aload_n 0, 1) := by decide +kernel
theorem dX5_waitingFor_6 : decode cX5_waitingFor 6 = .ok (.getfield 11, 3) := by decide +kernel
theorem dX5_waitingFor_9 : decode cX5_waitingFor 9 = .ok (.iconst 3, 1) := by decide +kernel
theorem dX5_waitingFor_10 : decode cX5_waitingFor 10 = .ok (.iaload, 1) := by decide +kernel
theorem dX5_waitingFor_11 : decode cX5_waitingFor 11 = .ok (.if_icmp .ge 38, 3) := by decide +kernel
theorem dX5_waitingFor_14 : decode cX5_waitingFor 14 = .ok (.iload_n 2, 1) := by decide +kernel
theorem dX5_waitingFor_15 : decode cX5_waitingFor 15 = .ok (.aload_n 0, 1) := by decide +kernel
theorem dX5_waitingFor_16 : decode cX5_waitingFor 16 = .ok (.iload_n 3, 1) := by decide +kernel
theorem dX5_waitingFor_17 : decode cX5_waitingFor 17 = .ok (.iconst 0, 1) := by decide +kernel
theorem dX5_waitingFor_18 : decode cX5_waitingFor 18 = .ok (.invokevirtual 59, 3) := by decide +kernel
theorem dX5_waitingFor_21 : decode cX5_waitingFor 21 = .ok (.iload_n 1, 1) := by decide +kernel
theorem dX5_waitingFor_22 : decode cX5_waitingFor 22 = .ok (.if_icmp .ne 18, 3) := by decide +kernel
theorem dX5_waitingFor_25 : decode cX5_waitingFor 25 = .ok (.aload_n 0, 1) := by decide +kernel
theorem dX5_waitingFor_26 : decode cX5_waitingFor 26 = .ok (.iload_n 3, 1) := by decide +kernel
theorem dX5_waitingFor_27 : decode cX5_waitingFor 27 = .ok (.iconst 3, 1) := by decide +kernel
theorem dX5_waitingFor_28 : decode cX5_waitingFor 28 = .ok (.invokevirtual 59, 3) := by decide +kernel
theorem dX5_waitingFor_31 : decode cX5_waitingFor 31 = .ok (.bipush (-2), 2) := by decide +kernel
theorem dX5_waitingFor_33 : decode cX5_waitingFor 33 = .ok (.if_icmp .ne 7, 3) := by decide +kernel
theorem dX5_waitingFor_36 : decode cX5_waitingFor 36 = .ok (.iconst 1, 1) := by decide +kernel
theorem dX5_waitingFor_37 : decode cX5_waitingFor 37 = .ok (.goto 4, 3) := by decide +kernel
theorem dX5_waitingFor_40 : decode cX5_waitingFor 40 = .ok (.iconst 0, 1) := by decide +kernel
theorem dX5_waitingFor_41 : decode cX5_waitingFor 41 = .ok (.iadd, 1) := by decide +kernel
theorem dX5_waitingFor_42 : decode cX5_waitingFor 42 = .ok (.istore_n 2, 1) := by decide +kernel
theorem dX5_waitingFor_43 : decode cX5_waitingFor 43 = .ok (.iinc 3 1, 3) := by decide +kernel
theorem dX5_waitingFor_46 : decode cX5_waitingFor 46 = .ok (.goto (-42), 3) := by decide +kernel
theorem dX5_waitingFor_49 : decode cX5_waitingFor 49 = .ok (.iload_n 2, 1) := by decide +kernel
theorem dX5_waitingFor_50 : decode cX5_waitingFor 50 = .ok (.ireturn, 1) := by decide +kernel
theorem dX5_removes_0 : decode cX5_removes 0 = .ok (.sipush 285, 3) := by decide +kernel
theorem dX5_removes_3 : decode cX5_removes 3 = .ok (.iconst 4, 1) := by decide +kernel
theorem dX5_removes_4 : decode cX5_removes 4 = .ok (.iload_n 1, 1) := by decide +kernel
theorem dX5_removes_5 : decode cX5_removes 5 = .ok (.imul, 1) := by decide +kernel
theorem dX5_removes_6 : decode cX5_removes 6 = .ok (.iadd, 1) := by decide +kernel
theorem dX5_removes_7 : decode cX5_removes 7 = .ok (.istore_n 2, 1) := by decide +kernel
theorem dX5_removes_8 : decode cX5_removes 8 = .ok (.iload_n 2, 1) := by decide +kernel
theorem dX5_removes_9 : decode cX5_removes 9 = .ok (.iconst 4, 1) := by decide +kernel
theorem dX5_removes_10 : decode cX5_removes 10 = .ok (.iadd, 1) := by decide +kernel
theorem dX5_removes_11 : decode cX5_removes 11 = .ok (.sipush 381, 3) := by decide +kernel
theorem dX5_removes_14 : decode cX5_removes 14 = .ok (.if_icmp .ge 23, 3) := by decide +kernel
theorem dX5_removes_17 : decode cX5_removes 17 = .ok (.aload_n 0, 1) := by decide +kernel
theorem dX5_removes_18 : decode cX5_removes 18 = .ok (.getfield 11, 3) := by decide +kernel
theorem dX5_removes_21 : decode cX5_removes 21 = .ok (.iload_n 2, 1) := by decide +kernel
theorem dX5_removes_22 : decode cX5_removes 22 = .ok (.aload_n 0, 1) := by decide +kernel
theorem dX5_removes_23 : decode cX5_removes 23 = .ok (.getfield 11, 3) := by decide +kernel
theorem dX5_removes_26 : decode cX5_removes 26 = .ok (.iload_n 2, 1) := by decide +kernel
theorem dX5_removes_27 : decode cX5_removes 27 = .ok (.iconst 4, 1) := by decide +kernel
theorem dX5_removes_28 : decode cX5_removes 28 = .ok (.iadd, 1) := by decide +kernel
theorem dX5_removes_29 : decode cX5_removes 29 = .ok (.iaload, 1) := by decide +kernel
theorem dX5_removes_30 : decode cX5_removes 30 = .ok (.iastore, 1) := by decide +kernel
theorem dX5_removes_31 : decode cX5_removes 31 = .ok (.iinc 2 1, 3) := by decide +kernel
theorem dX5_removes_34 : decode cX5_removes 34 = .ok (.goto (-26), 3) := by decide +kernel
theorem dX5_removes_37 : decode cX5_removes 37 = .ok (.aload_n 0, 1) := by decide +kernel
theorem dX5_removes_38 : decode cX5_removes 38 = .ok (.getfield 11, 3) := by decide +kernel
theorem dX5_removes_41 : decode cX5_removes 41 = .ok (.iconst 3, 1) := by decide +kernel
theorem dX5_removes_42 : decode cX5_removes 42 = .ok (.dup2, 1) := by decide +kernel
theorem dX5_removes_43 : decode cX5_removes 43 = .ok (.iaload, 1) := by decide +kernel
theorem dX5_removes_44 : decode cX5_removes 44 = .ok (.iconst 1, 1) := by decide +kernel
theorem dX5_removes_45 : decode cX5_removes 45 = .ok (.isub, 1) := by decide +kernel
theorem dX5_removes_46 : decode cX5_removes 46 = .ok (.iastore, 1) := by decide +kernel
theorem dX5_removes_47 : decode cX5_removes 47 = .ok (.return_, 1) := by decide +kernel
theorem dX5_assigns_0 : decode cX5_assigns 0 = .ok (.aload_n 0, 1) := by decide +kernel
theorem dX5_assigns_1 : decode cX5_assigns 1 = .ok (.getfield 11, 3) := by decide +kernel
theorem dX5_assigns_4 : decode cX5_assigns 4 = .ok (.sipush 285, 3) := by decide +kernel
theorem dX5_assigns_7 : decode cX5_assigns 7 = .ok (.iconst 4, 1) := by decide +kernel
theorem dX5_assigns_8 : decode cX5_assigns 8 = .ok (.iload_n 3, 1) := by decide +kernel
theorem dX5_assigns_9 : decode cX5_assigns 9 = .ok (.imul, 1) := by decide +kernel
theorem dX5_assigns_10 : decode cX5_assigns 10 = .ok (.iadd, 1) := by decide +kernel
theorem dX5_assigns_11 : decode cX5_assigns 11 = .ok (.iconst 3, 1) := by decide +kernel
theorem dX5_assigns_12 : decode cX5_assigns 12 = .ok (.iadd, 1) := by decide +kernel
theorem dX5_assigns_13 : decode cX5_assigns 13 = .ok (.iload_n 1, 1) := by decide +kernel
theorem dX5_assigns_14 : decode cX5_assigns 14 = .ok (.iastore, 1) := by decide +kernel
theorem dX5_assigns_15 : decode cX5_assigns 15 = .ok (.aload_n 0, 1) := by decide +kernel
theorem dX5_assigns_16 : decode cX5_assigns 16 = .ok (.iload_n 3, 1) := by decide +kernel
theorem dX5_assigns_17 : decode cX5_assigns 17 = .ok (.iconst 2, 1) := by decide +kernel
theorem dX5_assigns_18 : decode cX5_assigns 18 = .ok (.invokevirtual 59, 3) := by decide +kernel
theorem dX5_assigns_21 : decode cX5_assigns 21 = .ok (.istore 4, 2) := by decide +kernel
theorem dX5_assigns_23 : decode cX5_assigns 23 = .ok (.iload 4, 2) := by decide +kernel
theorem dX5_assigns_25 : decode cX5_assigns 25 = .ok (.iload_n 2, 1) := by decide +kernel
theorem dX5_assigns_26 : decode cX5_assigns 26 = .ok (.if_icmp .ne 28, 3) := by decide +kernel
theorem dX5_assigns_29 : decode cX5_assigns 29 = .ok (.aload_n 0, 1) := by decide +kernel
theorem dX5_assigns_30 : decode cX5_assigns 30 = .ok (.iload_n 1, 1) := by decide +kernel
theorem dX5_assigns_31 : decode cX5_assigns 31 = .ok (.iconst 3, 1) := by decide +kernel
theorem dX5_assigns_32 : decode cX5_assigns 32 = .ok (.iload 4, 2) := by decide +kernel
theorem dX5_assigns_34 : decode cX5_assigns 34 = .ok (.aload_n 0, 1) := by decide +kernel
theorem dX5_assigns_35 : decode cX5_assigns 35 = .ok (.getfield 11, 3) := by decide +kernel
theorem dX5_assigns_38 : decode cX5_assigns 38 = .ok (.iconst 0, 1) := by decide +kernel
theorem dX5_assigns_39 : decode cX5_assigns 39 = .ok (.iaload, 1) := by decide +kernel
theorem dX5_assigns_40 : decode cX5_assigns 40 = .ok (.aload_n 0, 1) := by decide +kernel
theorem dX5_assigns_41 : decode cX5_assigns 41 = .ok (.getfield 11, 3) := by decide +kernel
theorem dX5_assigns_44 : decode cX5_assigns 44 = .ok (.bipush 10, 2) := by decide +kernel
theorem dX5_assigns_46 : decode cX5_assigns 46 = .ok (.iaload, 1) := by decide +kernel
theorem dX5_assigns_47 : decode cX5_assigns 47 = .ok (.iadd, 1) := by decide +kernel
theorem dX5_assigns_48 : decode cX5_assigns 48 = .ok (.invokevirtual 63, 3) := by decide +kernel
theorem dX5_assigns_51 : decode cX5_assigns 51 = .ok (.goto 25, 3) := by decide +kernel
theorem dX5_assigns_54 : decode cX5_assigns 54 = .ok (.aload_n 0, 1) := by decide +kernel
theorem dX5_assigns_55 : decode cX5_assigns 55 = .ok (.iload_n 1, 1) := by decide +kernel
theorem dX5_assigns_56 : decode cX5_assigns 56 = .ok (.iconst 2, 1) := by decide +kernel
theorem dX5_assigns_57 : decode cX5_assigns 57 = .ok (.iload 4, 2) := by decide +kernel
theorem dX5_assigns_59 : decode cX5_assigns 59 = .ok (.aload_n 0, 1) := by decide +kernel
theorem dX5_assigns_60 : decode cX5_assigns 60 = .ok (.getfield 11, 3) := by decide +kernel
theorem dX5_assigns_63 : decode cX5_assigns 63 = .ok (.iconst 0, 1) := by decide +kernel
theorem dX5_assigns_64 : decode cX5_assigns 64 = .ok (.iaload, 1) := by decide +kernel
theorem dX5_assigns_65 : decode cX5_assigns 65 = .ok (.iload 4, 2) := by decide +kernel
theorem dX5_assigns_67 : decode cX5_assigns 67 = .ok (.iload_n 2, 1) := by decide +kernel
theorem dX5_assigns_68 : decode cX5_assigns 68 = .ok (.isub, 1) := by decide +kernel
theorem dX5_assigns_69 : decode cX5_assigns 69 = .ok (.invokestatic 67, 3) := by decide +kernel
theorem dX5_assigns_72 : decode cX5_assigns 72 = .ok (.iadd, 1) := by decide +kernel
theorem dX5_assigns_73 : decode cX5_assigns 73 = .ok (.invokevirtual 63, 3) := by decide +kernel
theorem dX5_assigns_76 : decode cX5_assigns 76 = .ok (.return_, 1) := by decide +kernel
theorem dX5_frees_0 : decode cX5_frees 0 = .ok (.aload_n 0, 1) := by decide +kernel
theorem dX5_frees_1 : decode cX5_frees 1 = .ok (.aload_n 0, 1) := by decide +kernel
theorem dX5_frees_2 : decode cX5_frees 2 = .ok (.iload_n 1, 1) := by decide +kernel
theorem dX5_frees_3 : decode cX5_frees 3 = .ok (.iconst 0, 1) := by decide +kernel
theorem dX5_frees_4 : decode cX5_frees 4 = .ok (.invokevirtual 73, 3) := by decide +kernel
theorem dX5_frees_7 : decode cX5_frees 7 = .ok (.invokevirtual 76, 3) := by decide +kernel
theorem dX5_frees_10 : decode cX5_frees 10 = .ok (.istore_n 3, 1) := by decide +kernel
theorem dX5_frees_11 : decode cX5_frees 11 = .ok (.aload_n 0, 1) := by decide +kernel
theorem dX5_frees_12 : decode cX5_frees 12 = .ok (.iload_n 1, 1) := by decide +kernel
theorem dX5_frees_13 : decode cX5_frees 13 = .ok (.iconst 1, 1) := by decide +kernel
theorem dX5_frees_14 : decode cX5_frees 14 = .ok (.invokevirtual 73, 3) := by decide +kernel
theorem dX5_frees_17 : decode cX5_frees 17 = .ok (.istore 4, 2) := by decide +kernel
theorem dX5_frees_19 : decode cX5_frees 19 = .ok (.iload_n 3, 1) := by decide +kernel
theorem dX5_frees_20 : decode cX5_frees 20 = .ok (.ifCond .lt 13, 3) := by decide +kernel
theorem dX5_frees_23 : decode cX5_frees 23 = .ok (.aload_n 0, 1) := by decide +kernel
theorem dX5_frees_24 : decode cX5_frees 24 = .ok (.iload_n 1, 1) := by decide +kernel
theorem dX5_frees_25 : decode cX5_frees 25 = .ok (.iload_n 2, 1) := by decide +kernel
theorem dX5_frees_26 : decode cX5_frees 26 = .ok (.iload_n 3, 1) := by decide +kernel
theorem dX5_frees_27 : decode cX5_frees 27 = .ok (.invokevirtual 79, 3) := by decide +kernel
theorem dX5_frees_30 : decode cX5_frees 30 = .ok (.goto 52, 3) := by decide +kernel
theorem dX5_frees_33 : decode cX5_frees 33 = .ok (.aload_n 0, 1) := by decide +kernel
theorem dX5_frees_34 : decode cX5_frees 34 = .ok (.iload_n 1, 1) := by decide +kernel
theorem dX5_frees_35 : decode cX5_frees 35 = .ok (.iconst 2, 1) := by decide +kernel
theorem dX5_frees_36 : decode cX5_frees 36 = .ok (.invokevirtual 73, 3) := by decide +kernel
theorem dX5_frees_39 : decode cX5_frees 39 = .ok (.iconst 1, 1) := by decide +kernel
theorem dX5_frees_40 : decode cX5_frees 40 = .ok (.if_icmp .eq 9, 3) := by decide +kernel
theorem dX5_frees_43 : decode cX5_frees 43 = .ok (.iload 4, 2) := by decide +kernel
theorem dX5_frees_45 : decode cX5_frees 45 = .ok (.iload_n 2, 1) := by decide +kernel
theorem dX5_frees_46 : decode cX5_frees 46 = .ok (.if_icmp .ne 14, 3) := by decide +kernel
theorem dX5_frees_49 : decode cX5_frees 49 = .ok (.aload_n 0, 1) := by decide +kernel
theorem dX5_frees_50 : decode cX5_frees 50 = .ok (.iload_n 1, 1) := by decide +kernel
theorem dX5_frees_51 : decode cX5_frees 51 = .ok (.iconst 0, 1) := by decide +kernel
theorem dX5_frees_52 : decode cX5_frees 52 = .ok (.iload_n 2, 1) := by decide +kernel
theorem dX5_frees_53 : decode cX5_frees 53 = .ok (.iconst 0, 1) := by decide +kernel
theorem dX5_frees_54 : decode cX5_frees 54 = .ok (.invokevirtual 63, 3) := by decide +kernel
theorem dX5_frees_57 : decode cX5_frees 57 = .ok (.goto 25, 3) := by decide +kernel
theorem dX5_frees_60 : decode cX5_frees 60 = .ok (.aload_n 0, 1) := by decide +kernel
theorem dX5_frees_61 : decode cX5_frees 61 = .ok (.iload_n 1, 1) := by decide +kernel
theorem dX5_frees_62 : decode cX5_frees 62 = .ok (.iconst 2, 1) := by decide +kernel
theorem dX5_frees_63 : decode cX5_frees 63 = .ok (.iload 4, 2) := by decide +kernel
theorem dX5_frees_65 : decode cX5_frees 65 = .ok (.aload_n 0, 1) := by decide +kernel
theorem dX5_frees_66 : decode cX5_frees 66 = .ok (.getfield 11, 3) := by decide +kernel
theorem dX5_frees_69 : decode cX5_frees 69 = .ok (.iconst 0, 1) := by decide +kernel
theorem dX5_frees_70 : decode cX5_frees 70 = .ok (.iaload, 1) := by decide +kernel
theorem dX5_frees_71 : decode cX5_frees 71 = .ok (.iload 4, 2) := by decide +kernel
theorem dX5_frees_73 : decode cX5_frees 73 = .ok (.iload_n 2, 1) := by decide +kernel
theorem dX5_frees_74 : decode cX5_frees 74 = .ok (.isub, 1) := by decide +kernel
theorem dX5_frees_75 : decode cX5_frees 75 = .ok (.invokestatic 67, 3) := by decide +kernel
theorem dX5_frees_78 : decode cX5_frees 78 = .ok (.iadd, 1) := by decide +kernel
theorem dX5_frees_79 : decode cX5_frees 79 = .ok (.invokevirtual 63, 3) := by decide +kernel
theorem dX5_frees_82 : decode cX5_frees 82 = .ok (.return_, 1) := by decide +kernel
theorem dX5_owes_0 : decode cX5_owes 0 = .ok (.iload_n 3, 1) := by decide +kernel
theorem dX5_owes_1 : decode cX5_owes 1 = .ok (.ifCond .ne 4, 3) := by decide +kernel
theorem dX5_owes_4 : decode cX5_owes 4 = .ok (.return_, 1) := by decide +kernel
theorem dX5_owes_5 : decode cX5_owes 5 = .ok (.aload_n 0, 1) := by decide +kernel
theorem dX5_owes_6 : decode cX5_owes 6 = .ok (.getfield 11, 3) := by decide +kernel
theorem dX5_owes_9 : decode cX5_owes 9 = .ok (.iconst 4, 1) := by decide +kernel
theorem dX5_owes_10 : decode cX5_owes 10 = .ok (.iaload, 1) := by decide +kernel
theorem dX5_owes_11 : decode cX5_owes 11 = .ok (.bipush 60, 2) := by decide +kernel
theorem dX5_owes_13 : decode cX5_owes 13 = .ok (.if_icmp .ne 50, 3) := by decide +kernel
theorem dX5_owes_16 : decode cX5_owes 16 = .ok (.sipush 381, 3) := by decide +kernel
theorem dX5_owes_19 : decode cX5_owes 19 = .ok (.istore 5, 2) := by decide +kernel
theorem dX5_owes_21 : decode cX5_owes 21 = .ok (.iload 5, 2) := by decide +kernel
theorem dX5_owes_23 : decode cX5_owes 23 = .ok (.iconst 5, 1) := by decide +kernel
theorem dX5_owes_24 : decode cX5_owes 24 = .ok (.iadd, 1) := by decide +kernel
theorem dX5_owes_25 : decode cX5_owes 25 = .ok (.sipush 681, 3) := by decide +kernel
theorem dX5_owes_28 : decode cX5_owes 28 = .ok (.if_icmp .ge 25, 3) := by decide +kernel
theorem dX5_owes_31 : decode cX5_owes 31 = .ok (.aload_n 0, 1) := by decide +kernel
theorem dX5_owes_32 : decode cX5_owes 32 = .ok (.getfield 11, 3) := by decide +kernel
theorem dX5_owes_35 : decode cX5_owes 35 = .ok (.iload 5, 2) := by decide +kernel
theorem dX5_owes_37 : decode cX5_owes 37 = .ok (.aload_n 0, 1) := by decide +kernel
theorem dX5_owes_38 : decode cX5_owes 38 = .ok (.getfield 11, 3) := by decide +kernel
theorem dX5_owes_41 : decode cX5_owes 41 = .ok (.iload 5, 2) := by decide +kernel
theorem dX5_owes_43 : decode cX5_owes 43 = .ok (.iconst 5, 1) := by decide +kernel
theorem dX5_owes_44 : decode cX5_owes 44 = .ok (.iadd, 1) := by decide +kernel
theorem dX5_owes_45 : decode cX5_owes 45 = .ok (.iaload, 1) := by decide +kernel
theorem dX5_owes_46 : decode cX5_owes 46 = .ok (.iastore, 1) := by decide +kernel
theorem dX5_owes_47 : decode cX5_owes 47 = .ok (.iinc 5 1, 3) := by decide +kernel
theorem dX5_owes_50 : decode cX5_owes 50 = .ok (.goto (-29), 3) := by decide +kernel
theorem dX5_owes_53 : decode cX5_owes 53 = .ok (.aload_n 0, 1) := by decide +kernel
theorem dX5_owes_54 : decode cX5_owes 54 = .ok (.getfield 11, 3) := by decide +kernel
theorem dX5_owes_57 : decode cX5_owes 57 = .ok (.iconst 4, 1) := by decide +kernel
theorem dX5_owes_58 : decode cX5_owes 58 = .ok (.dup2, 1) := by decide +kernel
theorem dX5_owes_59 : decode cX5_owes 59 = .ok (.iaload, 1) := by decide +kernel
theorem dX5_owes_60 : decode cX5_owes 60 = .ok (.iconst 1, 1) := by decide +kernel
theorem dX5_owes_61 : decode cX5_owes 61 = .ok (.isub, 1) := by decide +kernel
theorem dX5_owes_62 : decode cX5_owes 62 = .ok (.iastore, 1) := by decide +kernel
theorem dX5_owes_63 : decode cX5_owes 63 = .ok (.sipush 381, 3) := by decide +kernel
theorem dX5_owes_66 : decode cX5_owes 66 = .ok (.iconst 5, 1) := by decide +kernel
theorem dX5_owes_67 : decode cX5_owes 67 = .ok (.aload_n 0, 1) := by decide +kernel
theorem dX5_owes_68 : decode cX5_owes 68 = .ok (.getfield 11, 3) := by decide +kernel
theorem dX5_owes_71 : decode cX5_owes 71 = .ok (.iconst 4, 1) := by decide +kernel
theorem dX5_owes_72 : decode cX5_owes 72 = .ok (.iaload, 1) := by decide +kernel
theorem dX5_owes_73 : decode cX5_owes 73 = .ok (.imul, 1) := by decide +kernel
theorem dX5_owes_74 : decode cX5_owes 74 = .ok (.iadd, 1) := by decide +kernel
theorem dX5_owes_75 : decode cX5_owes 75 = .ok (.istore 5, 2) := by decide +kernel
theorem dX5_owes_77 : decode cX5_owes 77 = .ok (.aload_n 0, 1) := by decide +kernel
theorem dX5_owes_78 : decode cX5_owes 78 = .ok (.getfield 11, 3) := by decide +kernel
theorem dX5_owes_81 : decode cX5_owes 81 = .ok (.iload 5, 2) := by decide +kernel
theorem dX5_owes_83 : decode cX5_owes 83 = .ok (.iload_n 1, 1) := by decide +kernel
theorem dX5_owes_84 : decode cX5_owes 84 = .ok (.iastore, 1) := by decide +kernel
theorem dX5_owes_85 : decode cX5_owes 85 = .ok (.aload_n 0, 1) := by decide +kernel
theorem dX5_owes_86 : decode cX5_owes 86 = .ok (.getfield 11, 3) := by decide +kernel
theorem dX5_owes_89 : decode cX5_owes 89 = .ok (.iload 5, 2) := by decide +kernel
theorem dX5_owes_91 : decode cX5_owes 91 = .ok (.iconst 1, 1) := by decide +kernel
theorem dX5_owes_92 : decode cX5_owes 92 = .ok (.iadd, 1) := by decide +kernel
theorem dX5_owes_93 : decode cX5_owes 93 = .ok (.iload_n 2, 1) := by decide +kernel
theorem dX5_owes_94 : decode cX5_owes 94 = .ok (.iastore, 1) := by decide +kernel
theorem dX5_owes_95 : decode cX5_owes 95 = .ok (.aload_n 0, 1) := by decide +kernel
theorem dX5_owes_96 : decode cX5_owes 96 = .ok (.getfield 11, 3) := by decide +kernel
theorem dX5_owes_99 : decode cX5_owes 99 = .ok (.iload 5, 2) := by decide +kernel
theorem dX5_owes_101 : decode cX5_owes 101 = .ok (.iconst 2, 1) := by decide +kernel
theorem dX5_owes_102 : decode cX5_owes 102 = .ok (.iadd, 1) := by decide +kernel
theorem dX5_owes_103 : decode cX5_owes 103 = .ok (.iload_n 3, 1) := by decide +kernel
theorem dX5_owes_104 : decode cX5_owes 104 = .ok (.iastore, 1) := by decide +kernel
theorem dX5_owes_105 : decode cX5_owes 105 = .ok (.aload_n 0, 1) := by decide +kernel
theorem dX5_owes_106 : decode cX5_owes 106 = .ok (.getfield 11, 3) := by decide +kernel
theorem dX5_owes_109 : decode cX5_owes 109 = .ok (.iload 5, 2) := by decide +kernel
theorem dX5_owes_111 : decode cX5_owes 111 = .ok (.iconst 3, 1) := by decide +kernel
theorem dX5_owes_112 : decode cX5_owes 112 = .ok (.iadd, 1) := by decide +kernel
theorem dX5_owes_113 : decode cX5_owes 113 = .ok (.iload 4, 2) := by decide +kernel
theorem dX5_owes_115 : decode cX5_owes 115 = .ok (.iastore, 1) := by decide +kernel
theorem dX5_owes_116 : decode cX5_owes 116 = .ok (.aload_n 0, 1) := by decide +kernel
theorem dX5_owes_117 : decode cX5_owes 117 = .ok (.getfield 11, 3) := by decide +kernel
theorem dX5_owes_120 : decode cX5_owes 120 = .ok (.iload 5, 2) := by decide +kernel
theorem dX5_owes_122 : decode cX5_owes 122 = .ok (.iconst 4, 1) := by decide +kernel
theorem dX5_owes_123 : decode cX5_owes 123 = .ok (.iadd, 1) := by decide +kernel
theorem dX5_owes_124 : decode cX5_owes 124 = .ok (.aload_n 0, 1) := by decide +kernel
theorem dX5_owes_125 : decode cX5_owes 125 = .ok (.getfield 11, 3) := by decide +kernel
theorem dX5_owes_128 : decode cX5_owes 128 = .ok (.iconst 0, 1) := by decide +kernel
theorem dX5_owes_129 : decode cX5_owes 129 = .ok (.iaload, 1) := by decide +kernel
theorem dX5_owes_130 : decode cX5_owes 130 = .ok (.iastore, 1) := by decide +kernel
theorem dX5_owes_131 : decode cX5_owes 131 = .ok (.aload_n 0, 1) := by decide +kernel
theorem dX5_owes_132 : decode cX5_owes 132 = .ok (.getfield 11, 3) := by decide +kernel
theorem dX5_owes_135 : decode cX5_owes 135 = .ok (.iconst 4, 1) := by decide +kernel
theorem dX5_owes_136 : decode cX5_owes 136 = .ok (.dup2, 1) := by decide +kernel
theorem dX5_owes_137 : decode cX5_owes 137 = .ok (.iaload, 1) := by decide +kernel
theorem dX5_owes_138 : decode cX5_owes 138 = .ok (.iconst 1, 1) := by decide +kernel
theorem dX5_owes_139 : decode cX5_owes 139 = .ok (.iadd, 1) := by decide +kernel
theorem dX5_owes_140 : decode cX5_owes 140 = .ok (.iastore, 1) := by decide +kernel
theorem dX5_owes_141 : decode cX5_owes 141 = .ok (.aload_n 0, 1) := by decide +kernel
theorem dX5_owes_142 : decode cX5_owes 142 = .ok (.getfield 11, 3) := by decide +kernel
theorem dX5_owes_145 : decode cX5_owes 145 = .ok (.sipush 253, 3) := by decide +kernel
theorem dX5_owes_148 : decode cX5_owes 148 = .ok (.iconst 4, 1) := by decide +kernel
theorem dX5_owes_149 : decode cX5_owes 149 = .ok (.iload_n 2, 1) := by decide +kernel
theorem dX5_owes_150 : decode cX5_owes 150 = .ok (.imul, 1) := by decide +kernel
theorem dX5_owes_151 : decode cX5_owes 151 = .ok (.iadd, 1) := by decide +kernel
theorem dX5_owes_152 : decode cX5_owes 152 = .ok (.dup2, 1) := by decide +kernel
theorem dX5_owes_153 : decode cX5_owes 153 = .ok (.iaload, 1) := by decide +kernel
theorem dX5_owes_154 : decode cX5_owes 154 = .ok (.iload_n 3, 1) := by decide +kernel
theorem dX5_owes_155 : decode cX5_owes 155 = .ok (.iadd, 1) := by decide +kernel
theorem dX5_owes_156 : decode cX5_owes 156 = .ok (.iastore, 1) := by decide +kernel
theorem dX5_owes_157 : decode cX5_owes 157 = .ok (.aload_n 0, 1) := by decide +kernel
theorem dX5_owes_158 : decode cX5_owes 158 = .ok (.getfield 11, 3) := by decide +kernel
theorem dX5_owes_161 : decode cX5_owes 161 = .ok (.sipush 253, 3) := by decide +kernel
theorem dX5_owes_164 : decode cX5_owes 164 = .ok (.iconst 4, 1) := by decide +kernel
theorem dX5_owes_165 : decode cX5_owes 165 = .ok (.iload_n 2, 1) := by decide +kernel
theorem dX5_owes_166 : decode cX5_owes 166 = .ok (.imul, 1) := by decide +kernel
theorem dX5_owes_167 : decode cX5_owes 167 = .ok (.iadd, 1) := by decide +kernel
theorem dX5_owes_168 : decode cX5_owes 168 = .ok (.iload_n 3, 1) := by decide +kernel
theorem dX5_owes_169 : decode cX5_owes 169 = .ok (.ifCond .le 7, 3) := by decide +kernel
theorem dX5_owes_172 : decode cX5_owes 172 = .ok (.iconst 2, 1) := by decide +kernel
theorem dX5_owes_173 : decode cX5_owes 173 = .ok (.goto 4, 3) := by decide +kernel
theorem dX5_owes_176 : decode cX5_owes 176 = .ok (.iconst 3, 1) := by decide +kernel
theorem dX5_owes_177 : decode cX5_owes 177 = .ok (.iadd, 1) := by decide +kernel
theorem dX5_owes_178 : decode cX5_owes 178 = .ok (.dup2, 1) := by decide +kernel
theorem dX5_owes_179 : decode cX5_owes 179 = .ok (.iaload, 1) := by decide +kernel
theorem dX5_owes_180 : decode cX5_owes 180 = .ok (.iload_n 3, 1) := by decide +kernel
theorem dX5_owes_181 : decode cX5_owes 181 = .ok (.invokestatic 67, 3) := by decide +kernel
theorem dX5_owes_184 : decode cX5_owes 184 = .ok (.iadd, 1) := by decide +kernel
theorem dX5_owes_185 : decode cX5_owes 185 = .ok (.iastore, 1) := by decide +kernel
theorem dX5_owes_186 : decode cX5_owes 186 = .ok (.return_, 1) := by decide +kernel
theorem dX5_late_0 : decode cX5_late 0 = .ok (.iconst 0, 1) := by decide +kernel
theorem dX5_late_1 : decode cX5_late 1 = .ok (.aload_n 0, 1) := by decide +kernel
theorem dX5_late_2 : decode cX5_late 2 = .ok (.getfield 11, 3) := by decide +kernel
theorem dX5_late_5 : decode cX5_late 5 = .ok (.iconst 0, 1) := by decide +kernel
theorem dX5_late_6 : decode cX5_late 6 = .ok (.iaload, 1) := by decide +kernel
theorem dX5_late_7 : decode cX5_late 7 = .ok (.aload_n 0, 1) := by decide +kernel
theorem dX5_late_8 : decode cX5_late 8 = .ok (.iload_n 1, 1) := by decide +kernel
theorem dX5_late_9 : decode cX5_late 9 = .ok (.iconst 5, 1) := by decide +kernel
theorem dX5_late_10 : decode cX5_late 10 = .ok (.invokevirtual 73, 3) := by decide +kernel
theorem dX5_late_13 : decode cX5_late 13 = .ok (.isub, 1) := by decide +kernel
theorem dX5_late_14 : decode cX5_late 14 = .ok (.invokestatic 82, 3) := by decide +kernel
theorem dX5_late_17 : decode cX5_late 17 = .ok (.i2l, 1) := by decide +kernel
theorem dX5_late_18 : decode cX5_late 18 = .ok (.lstore_n 2, 1) := by decide +kernel
theorem dX5_late_19 : decode cX5_late 19 = .ok (.aload_n 0, 1) := by decide +kernel
theorem dX5_late_20 : decode cX5_late 20 = .ok (.getfield 11, 3) := by decide +kernel
theorem dX5_late_23 : decode cX5_late 23 = .ok (.bipush 8, 2) := by decide +kernel
theorem dX5_late_25 : decode cX5_late 25 = .ok (.iaload, 1) := by decide +kernel
theorem dX5_late_26 : decode cX5_late 26 = .ok (.i2l, 1) := by decide +kernel
theorem dX5_late_27 : decode cX5_late 27 = .ok (.lload_n 2, 1) := by decide +kernel
theorem dX5_late_28 : decode cX5_late 28 = .ok (.aload_n 0, 1) := by decide +kernel
theorem dX5_late_29 : decode cX5_late 29 = .ok (.getfield 11, 3) := by decide +kernel
theorem dX5_late_32 : decode cX5_late 32 = .ok (.bipush 7, 2) := by decide +kernel
theorem dX5_late_34 : decode cX5_late 34 = .ok (.iaload, 1) := by decide +kernel
theorem dX5_late_35 : decode cX5_late 35 = .ok (.i2l, 1) := by decide +kernel
theorem dX5_late_36 : decode cX5_late 36 = .ok (.lmul, 1) := by decide +kernel
theorem dX5_late_37 : decode cX5_late 37 = .ok (.invokestatic 85, 3) := by decide +kernel
theorem dX5_late_40 : decode cX5_late 40 = .ok (.l2i, 1) := by decide +kernel
theorem dX5_late_41 : decode cX5_late 41 = .ok (.ireturn, 1) := by decide +kernel
theorem dX5_isBarred_0 : decode cX5_isBarred 0 = .ok (.aload_n 0, 1) := by decide +kernel
theorem dX5_isBarred_1 : decode cX5_isBarred 1 = .ok (.getfield 11, 3) := by decide +kernel
theorem dX5_isBarred_4 : decode cX5_isBarred 4 = .ok (.sipush 253, 3) := by decide +kernel
theorem dX5_isBarred_7 : decode cX5_isBarred 7 = .ok (.iconst 4, 1) := by decide +kernel
theorem dX5_isBarred_8 : decode cX5_isBarred 8 = .ok (.iload_n 1, 1) := by decide +kernel
theorem dX5_isBarred_9 : decode cX5_isBarred 9 = .ok (.imul, 1) := by decide +kernel
theorem dX5_isBarred_10 : decode cX5_isBarred 10 = .ok (.iadd, 1) := by decide +kernel
theorem dX5_isBarred_11 : decode cX5_isBarred 11 = .ok (.iaload, 1) := by decide +kernel
theorem dX5_isBarred_12 : decode cX5_isBarred 12 = .ok (.aload_n 0, 1) := by decide +kernel
theorem dX5_isBarred_13 : decode cX5_isBarred 13 = .ok (.getfield 11, 3) := by decide +kernel
theorem dX5_isBarred_16 : decode cX5_isBarred 16 = .ok (.bipush 9, 2) := by decide +kernel
theorem dX5_isBarred_18 : decode cX5_isBarred 18 = .ok (.iaload, 1) := by decide +kernel
theorem dX5_isBarred_19 : decode cX5_isBarred 19 = .ok (.if_icmp .lt 7, 3) := by decide +kernel
theorem dX5_isBarred_22 : decode cX5_isBarred 22 = .ok (.iconst 1, 1) := by decide +kernel
theorem dX5_isBarred_23 : decode cX5_isBarred 23 = .ok (.goto 4, 3) := by decide +kernel
theorem dX5_isBarred_26 : decode cX5_isBarred 26 = .ok (.iconst 0, 1) := by decide +kernel
theorem dX5_isBarred_27 : decode cX5_isBarred 27 = .ok (.ireturn, 1) := by decide +kernel
theorem dX5_loans_0 : decode cX5_loans 0 = .ok (.iconst 0, 1) := by decide +kernel
theorem dX5_loans_1 : decode cX5_loans 1 = .ok (.istore_n 2, 1) := by decide +kernel
theorem dX5_loans_2 : decode cX5_loans 2 = .ok (.iconst 0, 1) := by decide +kernel
theorem dX5_loans_3 : decode cX5_loans 3 = .ok (.istore_n 3, 1) := by decide +kernel
theorem dX5_loans_4 : decode cX5_loans 4 = .ok (.iload_n 3, 1) := by decide +kernel
theorem dX5_loans_5 : decode cX5_loans 5 = .ok (.aload_n 0, 1) := by decide +kernel
theorem dX5_loans_6 : decode cX5_loans 6 = .ok (.getfield 11, 3) := by decide +kernel
theorem dX5_loans_9 : decode cX5_loans 9 = .ok (.iconst 1, 1) := by decide +kernel
theorem dX5_loans_10 : decode cX5_loans 10 = .ok (.iaload, 1) := by decide +kernel
theorem dX5_loans_11 : decode cX5_loans 11 = .ok (.if_icmp .ge 37, 3) := by decide +kernel
theorem dX5_loans_14 : decode cX5_loans 14 = .ok (.iload_n 2, 1) := by decide +kernel
theorem dX5_loans_15 : decode cX5_loans 15 = .ok (.aload_n 0, 1) := by decide +kernel
theorem dX5_loans_16 : decode cX5_loans 16 = .ok (.iload_n 3, 1) := by decide +kernel
theorem dX5_loans_17 : decode cX5_loans 17 = .ok (.iconst 3, 1) := by decide +kernel
theorem dX5_loans_18 : decode cX5_loans 18 = .ok (.invokevirtual 73, 3) := by decide +kernel
theorem dX5_loans_21 : decode cX5_loans 21 = .ok (.iconst 1, 1) := by decide +kernel
theorem dX5_loans_22 : decode cX5_loans 22 = .ok (.if_icmp .ne 17, 3) := by decide +kernel
theorem dX5_loans_25 : decode cX5_loans 25 = .ok (.aload_n 0, 1) := by decide +kernel
theorem dX5_loans_26 : decode cX5_loans 26 = .ok (.iload_n 3, 1) := by decide +kernel
theorem dX5_loans_27 : decode cX5_loans 27 = .ok (.iconst 4, 1) := by decide +kernel
theorem dX5_loans_28 : decode cX5_loans 28 = .ok (.invokevirtual 73, 3) := by decide +kernel
theorem dX5_loans_31 : decode cX5_loans 31 = .ok (.iload_n 1, 1) := by decide +kernel
theorem dX5_loans_32 : decode cX5_loans 32 = .ok (.if_icmp .ne 7, 3) := by decide +kernel
theorem dX5_loans_35 : decode cX5_loans 35 = .ok (.iconst 1, 1) := by decide +kernel
theorem dX5_loans_36 : decode cX5_loans 36 = .ok (.goto 4, 3) := by decide +kernel
theorem dX5_loans_39 : decode cX5_loans 39 = .ok (.iconst 0, 1) := by decide +kernel
theorem dX5_loans_40 : decode cX5_loans 40 = .ok (.iadd, 1) := by decide +kernel
theorem dX5_loans_41 : decode cX5_loans 41 = .ok (.istore_n 2, 1) := by decide +kernel
theorem dX5_loans_42 : decode cX5_loans 42 = .ok (.iinc 3 1, 3) := by decide +kernel
theorem dX5_loans_45 : decode cX5_loans 45 = .ok (.goto (-41), 3) := by decide +kernel
theorem dX5_loans_48 : decode cX5_loans 48 = .ok (.iload_n 2, 1) := by decide +kernel
theorem dX5_loans_49 : decode cX5_loans 49 = .ok (.ireturn, 1) := by decide +kernel
theorem dX5_addCopy_0 : decode cX5_addCopy 0 = .ok (.iload_n 1, 1) := by decide +kernel
theorem dX5_addCopy_1 : decode cX5_addCopy 1 = .ok (.invokestatic 89, 3) := by decide +kernel
theorem dX5_addCopy_4 : decode cX5_addCopy 4 = .ok (.ifCond .eq 10, 3) := by decide +kernel
theorem dX5_addCopy_7 : decode cX5_addCopy 7 = .ok (.iload_n 2, 1) := by decide +kernel
theorem dX5_addCopy_8 : decode cX5_addCopy 8 = .ok (.invokestatic 93, 3) := by decide +kernel
theorem dX5_addCopy_11 : decode cX5_addCopy 11 = .ok (.ifCond .ne 5, 3) := by decide +kernel
theorem dX5_addCopy_14 : decode cX5_addCopy 14 = .ok (.iconst (-1), 1) := by decide +kernel
theorem dX5_addCopy_15 : decode cX5_addCopy 15 = .ok (.ireturn, 1) := by decide +kernel
theorem dX5_addCopy_16 : decode cX5_addCopy 16 = .ok (.aload_n 0, 1) := by decide +kernel
theorem dX5_addCopy_17 : decode cX5_addCopy 17 = .ok (.getfield 11, 3) := by decide +kernel
theorem dX5_addCopy_20 : decode cX5_addCopy 20 = .ok (.iconst 1, 1) := by decide +kernel
theorem dX5_addCopy_21 : decode cX5_addCopy 21 = .ok (.iaload, 1) := by decide +kernel
theorem dX5_addCopy_22 : decode cX5_addCopy 22 = .ok (.bipush 20, 2) := by decide +kernel
theorem dX5_addCopy_24 : decode cX5_addCopy 24 = .ok (.if_icmp .ne 6, 3) := by decide +kernel
theorem dX5_addCopy_27 : decode cX5_addCopy 27 = .ok (.bipush (-3), 2) := by decide +kernel
theorem dX5_addCopy_29 : decode cX5_addCopy 29 = .ok (.ireturn, 1) := by decide +kernel
theorem dX5_addCopy_30 : decode cX5_addCopy 30 = .ok (.aload_n 0, 1) := by decide +kernel
theorem dX5_addCopy_31 : decode cX5_addCopy 31 = .ok (.invokevirtual 96, 3) := by decide +kernel
theorem dX5_addCopy_34 : decode cX5_addCopy 34 = .ok (.aload_n 0, 1) := by decide +kernel
theorem dX5_addCopy_35 : decode cX5_addCopy 35 = .ok (.getfield 11, 3) := by decide +kernel
theorem dX5_addCopy_38 : decode cX5_addCopy 38 = .ok (.iconst 1, 1) := by decide +kernel
theorem dX5_addCopy_39 : decode cX5_addCopy 39 = .ok (.iaload, 1) := by decide +kernel
theorem dX5_addCopy_40 : decode cX5_addCopy 40 = .ok (.istore_n 3, 1) := by decide +kernel
theorem dX5_addCopy_41 : decode cX5_addCopy 41 = .ok (.iconst 0, 1) := by decide +kernel
theorem dX5_addCopy_42 : decode cX5_addCopy 42 = .ok (.istore 4, 2) := by decide +kernel
theorem dX5_addCopy_44 : decode cX5_addCopy 44 = .ok (.iload 4, 2) := by decide +kernel
theorem dX5_addCopy_46 : decode cX5_addCopy 46 = .ok (.bipush 12, 2) := by decide +kernel
theorem dX5_addCopy_48 : decode cX5_addCopy 48 = .ok (.if_icmp .ge 17, 3) := by decide +kernel
theorem dX5_addCopy_51 : decode cX5_addCopy 51 = .ok (.aload_n 0, 1) := by decide +kernel
theorem dX5_addCopy_52 : decode cX5_addCopy 52 = .ok (.iload_n 3, 1) := by decide +kernel
theorem dX5_addCopy_53 : decode cX5_addCopy 53 = .ok (.iload 4, 2) := by decide +kernel
theorem dX5_addCopy_55 : decode cX5_addCopy 55 = .ok (.iconst 0, 1) := by decide +kernel
theorem dX5_addCopy_56 : decode cX5_addCopy 56 = .ok (.invokevirtual 55, 3) := by decide +kernel
theorem dX5_addCopy_59 : decode cX5_addCopy 59 = .ok (.iinc 4 1, 3) := by decide +kernel
theorem dX5_addCopy_62 : decode cX5_addCopy 62 = .ok (.goto (-18), 3) := by decide +kernel
theorem dX5_addCopy_65 : decode cX5_addCopy 65 = .ok (.aload_n 0, 1) := by decide +kernel
theorem dX5_addCopy_66 : decode cX5_addCopy 66 = .ok (.iload_n 3, 1) := by decide +kernel
theorem dX5_addCopy_67 : decode cX5_addCopy 67 = .ok (.iconst 0, 1) := by decide +kernel
theorem dX5_addCopy_68 : decode cX5_addCopy 68 = .ok (.iload_n 1, 1) := by decide +kernel
theorem dX5_addCopy_69 : decode cX5_addCopy 69 = .ok (.invokevirtual 55, 3) := by decide +kernel
theorem dX5_addCopy_72 : decode cX5_addCopy 72 = .ok (.aload_n 0, 1) := by decide +kernel
theorem dX5_addCopy_73 : decode cX5_addCopy 73 = .ok (.iload_n 3, 1) := by decide +kernel
theorem dX5_addCopy_74 : decode cX5_addCopy 74 = .ok (.iconst 1, 1) := by decide +kernel
theorem dX5_addCopy_75 : decode cX5_addCopy 75 = .ok (.iload_n 2, 1) := by decide +kernel
theorem dX5_addCopy_76 : decode cX5_addCopy 76 = .ok (.invokevirtual 55, 3) := by decide +kernel
theorem dX5_addCopy_79 : decode cX5_addCopy 79 = .ok (.aload_n 0, 1) := by decide +kernel
theorem dX5_addCopy_80 : decode cX5_addCopy 80 = .ok (.getfield 11, 3) := by decide +kernel
theorem dX5_addCopy_83 : decode cX5_addCopy 83 = .ok (.iconst 1, 1) := by decide +kernel
theorem dX5_addCopy_84 : decode cX5_addCopy 84 = .ok (.dup2, 1) := by decide +kernel
theorem dX5_addCopy_85 : decode cX5_addCopy 85 = .ok (.iaload, 1) := by decide +kernel
theorem dX5_addCopy_86 : decode cX5_addCopy 86 = .ok (.iconst 1, 1) := by decide +kernel
theorem dX5_addCopy_87 : decode cX5_addCopy 87 = .ok (.iadd, 1) := by decide +kernel
theorem dX5_addCopy_88 : decode cX5_addCopy 88 = .ok (.iastore, 1) := by decide +kernel
theorem dX5_addCopy_89 : decode cX5_addCopy 89 = .ok (.aload_n 0, 1) := by decide +kernel
theorem dX5_addCopy_90 : decode cX5_addCopy 90 = .ok (.iload_n 3, 1) := by decide +kernel
theorem dX5_addCopy_91 : decode cX5_addCopy 91 = .ok (.iload_n 2, 1) := by decide +kernel
theorem dX5_addCopy_92 : decode cX5_addCopy 92 = .ok (.invokevirtual 99, 3) := by decide +kernel
theorem dX5_addCopy_95 : decode cX5_addCopy 95 = .ok (.aload_n 0, 1) := by decide +kernel
theorem dX5_addCopy_96 : decode cX5_addCopy 96 = .ok (.iload_n 3, 1) := by decide +kernel
theorem dX5_addCopy_97 : decode cX5_addCopy 97 = .ok (.invokevirtual 103, 3) := by decide +kernel
theorem dX5_addCopy_100 : decode cX5_addCopy 100 = .ok (.ireturn, 1) := by decide +kernel
theorem dX5_addPatron_0 : decode cX5_addPatron 0 = .ok (.aload_n 0, 1) := by decide +kernel
theorem dX5_addPatron_1 : decode cX5_addPatron 1 = .ok (.getfield 11, 3) := by decide +kernel
theorem dX5_addPatron_4 : decode cX5_addPatron 4 = .ok (.iconst 2, 1) := by decide +kernel
theorem dX5_addPatron_5 : decode cX5_addPatron 5 = .ok (.iaload, 1) := by decide +kernel
theorem dX5_addPatron_6 : decode cX5_addPatron 6 = .ok (.bipush 8, 2) := by decide +kernel
theorem dX5_addPatron_8 : decode cX5_addPatron 8 = .ok (.if_icmp .ne 6, 3) := by decide +kernel
theorem dX5_addPatron_11 : decode cX5_addPatron 11 = .ok (.bipush (-3), 2) := by decide +kernel
theorem dX5_addPatron_13 : decode cX5_addPatron 13 = .ok (.ireturn, 1) := by decide +kernel
theorem dX5_addPatron_14 : decode cX5_addPatron 14 = .ok (.aload_n 0, 1) := by decide +kernel
theorem dX5_addPatron_15 : decode cX5_addPatron 15 = .ok (.invokevirtual 96, 3) := by decide +kernel
theorem dX5_addPatron_18 : decode cX5_addPatron 18 = .ok (.aload_n 0, 1) := by decide +kernel
theorem dX5_addPatron_19 : decode cX5_addPatron 19 = .ok (.getfield 11, 3) := by decide +kernel
theorem dX5_addPatron_22 : decode cX5_addPatron 22 = .ok (.iconst 2, 1) := by decide +kernel
theorem dX5_addPatron_23 : decode cX5_addPatron 23 = .ok (.iaload, 1) := by decide +kernel
theorem dX5_addPatron_24 : decode cX5_addPatron 24 = .ok (.istore_n 1, 1) := by decide +kernel
theorem dX5_addPatron_25 : decode cX5_addPatron 25 = .ok (.iconst 0, 1) := by decide +kernel
theorem dX5_addPatron_26 : decode cX5_addPatron 26 = .ok (.istore_n 2, 1) := by decide +kernel
theorem dX5_addPatron_27 : decode cX5_addPatron 27 = .ok (.iload_n 2, 1) := by decide +kernel
theorem dX5_addPatron_28 : decode cX5_addPatron 28 = .ok (.iconst 4, 1) := by decide +kernel
theorem dX5_addPatron_29 : decode cX5_addPatron 29 = .ok (.if_icmp .ge 24, 3) := by decide +kernel
theorem dX5_addPatron_32 : decode cX5_addPatron 32 = .ok (.aload_n 0, 1) := by decide +kernel
theorem dX5_addPatron_33 : decode cX5_addPatron 33 = .ok (.getfield 11, 3) := by decide +kernel
theorem dX5_addPatron_36 : decode cX5_addPatron 36 = .ok (.sipush 253, 3) := by decide +kernel
theorem dX5_addPatron_39 : decode cX5_addPatron 39 = .ok (.iconst 4, 1) := by decide +kernel
theorem dX5_addPatron_40 : decode cX5_addPatron 40 = .ok (.iload_n 1, 1) := by decide +kernel
theorem dX5_addPatron_41 : decode cX5_addPatron 41 = .ok (.imul, 1) := by decide +kernel
theorem dX5_addPatron_42 : decode cX5_addPatron 42 = .ok (.iadd, 1) := by decide +kernel
theorem dX5_addPatron_43 : decode cX5_addPatron 43 = .ok (.iload_n 2, 1) := by decide +kernel
theorem dX5_addPatron_44 : decode cX5_addPatron 44 = .ok (.iadd, 1) := by decide +kernel
theorem dX5_addPatron_45 : decode cX5_addPatron 45 = .ok (.iconst 0, 1) := by decide +kernel
theorem dX5_addPatron_46 : decode cX5_addPatron 46 = .ok (.iastore, 1) := by decide +kernel
theorem dX5_addPatron_47 : decode cX5_addPatron 47 = .ok (.iinc 2 1, 3) := by decide +kernel
theorem dX5_addPatron_50 : decode cX5_addPatron 50 = .ok (.goto (-23), 3) := by decide +kernel
theorem dX5_addPatron_53 : decode cX5_addPatron 53 = .ok (.aload_n 0, 1) := by decide +kernel
theorem dX5_addPatron_54 : decode cX5_addPatron 54 = .ok (.getfield 11, 3) := by decide +kernel
theorem dX5_addPatron_57 : decode cX5_addPatron 57 = .ok (.iconst 2, 1) := by decide +kernel
theorem dX5_addPatron_58 : decode cX5_addPatron 58 = .ok (.dup2, 1) := by decide +kernel
theorem dX5_addPatron_59 : decode cX5_addPatron 59 = .ok (.iaload, 1) := by decide +kernel
theorem dX5_addPatron_60 : decode cX5_addPatron 60 = .ok (.iconst 1, 1) := by decide +kernel
theorem dX5_addPatron_61 : decode cX5_addPatron 61 = .ok (.iadd, 1) := by decide +kernel
theorem dX5_addPatron_62 : decode cX5_addPatron 62 = .ok (.iastore, 1) := by decide +kernel
theorem dX5_addPatron_63 : decode cX5_addPatron 63 = .ok (.aload_n 0, 1) := by decide +kernel
theorem dX5_addPatron_64 : decode cX5_addPatron 64 = .ok (.iload_n 1, 1) := by decide +kernel
theorem dX5_addPatron_65 : decode cX5_addPatron 65 = .ok (.invokevirtual 103, 3) := by decide +kernel
theorem dX5_addPatron_68 : decode cX5_addPatron 68 = .ok (.ireturn, 1) := by decide +kernel
theorem dX5_least_0 : decode cX5_least 0 = .ok (.iload_n 0, 1) := by decide +kernel
theorem dX5_least_1 : decode cX5_least 1 = .ok (.ifCond .eq 19, 3) := by decide +kernel
theorem dX5_least_4 : decode cX5_least 4 = .ok (.iload_n 0, 1) := by decide +kernel
theorem dX5_least_5 : decode cX5_least 5 = .ok (.iconst 1, 1) := by decide +kernel
theorem dX5_least_6 : decode cX5_least 6 = .ok (.if_icmp .eq 14, 3) := by decide +kernel
theorem dX5_least_9 : decode cX5_least 9 = .ok (.iload_n 0, 1) := by decide +kernel
theorem dX5_least_10 : decode cX5_least 10 = .ok (.iconst 4, 1) := by decide +kernel
theorem dX5_least_11 : decode cX5_least 11 = .ok (.if_icmp .eq 9, 3) := by decide +kernel
theorem dX5_least_14 : decode cX5_least 14 = .ok (.iload_n 0, 1) := by decide +kernel
theorem dX5_least_15 : decode cX5_least 15 = .ok (.bipush 7, 2) := by decide +kernel
theorem dX5_least_17 : decode cX5_least 17 = .ok (.if_icmp .ne 7, 3) := by decide +kernel
theorem dX5_least_20 : decode cX5_least 20 = .ok (.iconst 1, 1) := by decide +kernel
theorem dX5_least_21 : decode cX5_least 21 = .ok (.goto 4, 3) := by decide +kernel
theorem dX5_least_24 : decode cX5_least 24 = .ok (.iconst 0, 1) := by decide +kernel
theorem dX5_least_25 : decode cX5_least 25 = .ok (.ireturn, 1) := by decide +kernel
theorem dX5_most_0 : decode cX5_most 0 = .ok (.iload_n 0, 1) := by decide +kernel
theorem dX5_most_1 : decode cX5_most 1 = .ok (.tableswitch 66 0 6 #[43, 46, 49, 53, 57, 60, 63], 43) := by decide +kernel
theorem dX5_most_44 : decode cX5_most 44 = .ok (.bipush 60, 2) := by decide +kernel
theorem dX5_most_46 : decode cX5_most 46 = .ok (.ireturn, 1) := by decide +kernel
theorem dX5_most_47 : decode cX5_most 47 = .ok (.bipush 20, 2) := by decide +kernel
theorem dX5_most_49 : decode cX5_most 49 = .ok (.ireturn, 1) := by decide +kernel
theorem dX5_most_50 : decode cX5_most 50 = .ok (.sipush 1000, 3) := by decide +kernel
theorem dX5_most_53 : decode cX5_most 53 = .ok (.ireturn, 1) := by decide +kernel
theorem dX5_most_54 : decode cX5_most 54 = .ok (.sipush 10000, 3) := by decide +kernel
theorem dX5_most_57 : decode cX5_most 57 = .ok (.ireturn, 1) := by decide +kernel
theorem dX5_most_58 : decode cX5_most 58 = .ok (.ldc 106, 2) := by decide +kernel
theorem dX5_most_60 : decode cX5_most 60 = .ok (.ireturn, 1) := by decide +kernel
theorem dX5_most_61 : decode cX5_most 61 = .ok (.bipush 30, 2) := by decide +kernel
theorem dX5_most_63 : decode cX5_most 63 = .ok (.ireturn, 1) := by decide +kernel
theorem dX5_most_64 : decode cX5_most 64 = .ok (.ldc 106, 2) := by decide +kernel
theorem dX5_most_66 : decode cX5_most 66 = .ok (.ireturn, 1) := by decide +kernel
theorem dX5_most_67 : decode cX5_most 67 = .ok (.sipush 365, 3) := by decide +kernel
theorem dX5_most_70 : decode cX5_most 70 = .ok (.ireturn, 1) := by decide +kernel
theorem dX5_set_0 : decode cX5_set 0 = .ok (.iload_n 1, 1) := by decide +kernel
theorem dX5_set_1 : decode cX5_set 1 = .ok (.iconst 0, 1) := by decide +kernel
theorem dX5_set_2 : decode cX5_set 2 = .ok (.bipush 7, 2) := by decide +kernel
theorem dX5_set_4 : decode cX5_set 4 = .ok (.invokestatic 51, 3) := by decide +kernel
theorem dX5_set_7 : decode cX5_set 7 = .ok (.ifCond .eq 18, 3) := by decide +kernel
theorem dX5_set_10 : decode cX5_set 10 = .ok (.iload_n 2, 1) := by decide +kernel
theorem dX5_set_11 : decode cX5_set 11 = .ok (.iload_n 1, 1) := by decide +kernel
theorem dX5_set_12 : decode cX5_set 12 = .ok (.invokestatic 107, 3) := by decide +kernel
theorem dX5_set_15 : decode cX5_set 15 = .ok (.iload_n 1, 1) := by decide +kernel
theorem dX5_set_16 : decode cX5_set 16 = .ok (.invokestatic 110, 3) := by decide +kernel
theorem dX5_set_19 : decode cX5_set 19 = .ok (.invokestatic 51, 3) := by decide +kernel
theorem dX5_set_22 : decode cX5_set 22 = .ok (.ifCond .ne 5, 3) := by decide +kernel
theorem dX5_set_25 : decode cX5_set 25 = .ok (.iconst (-1), 1) := by decide +kernel
theorem dX5_set_26 : decode cX5_set 26 = .ok (.ireturn, 1) := by decide +kernel
theorem dX5_set_27 : decode cX5_set 27 = .ok (.aload_n 0, 1) := by decide +kernel
theorem dX5_set_28 : decode cX5_set 28 = .ok (.invokevirtual 96, 3) := by decide +kernel
theorem dX5_set_31 : decode cX5_set 31 = .ok (.aload_n 0, 1) := by decide +kernel
theorem dX5_set_32 : decode cX5_set 32 = .ok (.getfield 11, 3) := by decide +kernel
theorem dX5_set_35 : decode cX5_set 35 = .ok (.iconst 5, 1) := by decide +kernel
theorem dX5_set_36 : decode cX5_set 36 = .ok (.iload_n 1, 1) := by decide +kernel
theorem dX5_set_37 : decode cX5_set 37 = .ok (.iadd, 1) := by decide +kernel
theorem dX5_set_38 : decode cX5_set 38 = .ok (.iaload, 1) := by decide +kernel
theorem dX5_set_39 : decode cX5_set 39 = .ok (.istore_n 3, 1) := by decide +kernel
theorem dX5_set_40 : decode cX5_set 40 = .ok (.aload_n 0, 1) := by decide +kernel
theorem dX5_set_41 : decode cX5_set 41 = .ok (.getfield 11, 3) := by decide +kernel
theorem dX5_set_44 : decode cX5_set 44 = .ok (.iconst 5, 1) := by decide +kernel
theorem dX5_set_45 : decode cX5_set 45 = .ok (.iload_n 1, 1) := by decide +kernel
theorem dX5_set_46 : decode cX5_set 46 = .ok (.iadd, 1) := by decide +kernel
theorem dX5_set_47 : decode cX5_set 47 = .ok (.iload_n 2, 1) := by decide +kernel
theorem dX5_set_48 : decode cX5_set 48 = .ok (.iastore, 1) := by decide +kernel
theorem dX5_set_49 : decode cX5_set 49 = .ok (.aload_n 0, 1) := by decide +kernel
theorem dX5_set_50 : decode cX5_set 50 = .ok (.iload_n 3, 1) := by decide +kernel
theorem dX5_set_51 : decode cX5_set 51 = .ok (.invokevirtual 103, 3) := by decide +kernel
theorem dX5_set_54 : decode cX5_set 54 = .ok (.ireturn, 1) := by decide +kernel
theorem dX5_setting_0 : decode cX5_setting 0 = .ok (.iload_n 1, 1) := by decide +kernel
theorem dX5_setting_1 : decode cX5_setting 1 = .ok (.iconst 0, 1) := by decide +kernel
theorem dX5_setting_2 : decode cX5_setting 2 = .ok (.bipush 7, 2) := by decide +kernel
theorem dX5_setting_4 : decode cX5_setting 4 = .ok (.invokestatic 51, 3) := by decide +kernel
theorem dX5_setting_7 : decode cX5_setting 7 = .ok (.ifCond .eq 14, 3) := by decide +kernel
theorem dX5_setting_10 : decode cX5_setting 10 = .ok (.aload_n 0, 1) := by decide +kernel
theorem dX5_setting_11 : decode cX5_setting 11 = .ok (.getfield 11, 3) := by decide +kernel
theorem dX5_setting_14 : decode cX5_setting 14 = .ok (.iconst 5, 1) := by decide +kernel
theorem dX5_setting_15 : decode cX5_setting 15 = .ok (.iload_n 1, 1) := by decide +kernel
theorem dX5_setting_16 : decode cX5_setting 16 = .ok (.iadd, 1) := by decide +kernel
theorem dX5_setting_17 : decode cX5_setting 17 = .ok (.iaload, 1) := by decide +kernel
theorem dX5_setting_18 : decode cX5_setting 18 = .ok (.goto 4, 3) := by decide +kernel
theorem dX5_setting_21 : decode cX5_setting 21 = .ok (.iconst (-1), 1) := by decide +kernel
theorem dX5_setting_22 : decode cX5_setting 22 = .ok (.ireturn, 1) := by decide +kernel
theorem dX5_setFloating_0 : decode cX5_setFloating 0 = .ok (.aload_n 0, 1) := by decide +kernel
theorem dX5_setFloating_1 : decode cX5_setFloating 1 = .ok (.iload_n 1, 1) := by decide +kernel
theorem dX5_setFloating_2 : decode cX5_setFloating 2 = .ok (.invokevirtual 113, 3) := by decide +kernel
theorem dX5_setFloating_5 : decode cX5_setFloating 5 = .ok (.ifCond .ne 5, 3) := by decide +kernel
theorem dX5_setFloating_8 : decode cX5_setFloating 8 = .ok (.iconst (-1), 1) := by decide +kernel
theorem dX5_setFloating_9 : decode cX5_setFloating 9 = .ok (.ireturn, 1) := by decide +kernel
theorem dX5_setFloating_10 : decode cX5_setFloating 10 = .ok (.aload_n 0, 1) := by decide +kernel
theorem dX5_setFloating_11 : decode cX5_setFloating 11 = .ok (.invokevirtual 96, 3) := by decide +kernel
theorem dX5_setFloating_14 : decode cX5_setFloating 14 = .ok (.aload_n 0, 1) := by decide +kernel
theorem dX5_setFloating_15 : decode cX5_setFloating 15 = .ok (.iload_n 1, 1) := by decide +kernel
theorem dX5_setFloating_16 : decode cX5_setFloating 16 = .ok (.iconst 2, 1) := by decide +kernel
theorem dX5_setFloating_17 : decode cX5_setFloating 17 = .ok (.invokevirtual 73, 3) := by decide +kernel
theorem dX5_setFloating_20 : decode cX5_setFloating 20 = .ok (.istore_n 3, 1) := by decide +kernel
theorem dX5_setFloating_21 : decode cX5_setFloating 21 = .ok (.aload_n 0, 1) := by decide +kernel
theorem dX5_setFloating_22 : decode cX5_setFloating 22 = .ok (.iload_n 1, 1) := by decide +kernel
theorem dX5_setFloating_23 : decode cX5_setFloating 23 = .ok (.iconst 2, 1) := by decide +kernel
theorem dX5_setFloating_24 : decode cX5_setFloating 24 = .ok (.iload_n 2, 1) := by decide +kernel
theorem dX5_setFloating_25 : decode cX5_setFloating 25 = .ok (.ifCond .eq 7, 3) := by decide +kernel
theorem dX5_setFloating_28 : decode cX5_setFloating 28 = .ok (.iconst 1, 1) := by decide +kernel
theorem dX5_setFloating_29 : decode cX5_setFloating 29 = .ok (.goto 4, 3) := by decide +kernel
theorem dX5_setFloating_32 : decode cX5_setFloating 32 = .ok (.iconst 0, 1) := by decide +kernel
theorem dX5_setFloating_33 : decode cX5_setFloating 33 = .ok (.invokevirtual 55, 3) := by decide +kernel
theorem dX5_setFloating_36 : decode cX5_setFloating 36 = .ok (.aload_n 0, 1) := by decide +kernel
theorem dX5_setFloating_37 : decode cX5_setFloating 37 = .ok (.iload_n 3, 1) := by decide +kernel
theorem dX5_setFloating_38 : decode cX5_setFloating 38 = .ok (.invokevirtual 103, 3) := by decide +kernel
theorem dX5_setFloating_41 : decode cX5_setFloating 41 = .ok (.ireturn, 1) := by decide +kernel
theorem dX5_copyCount_0 : decode cX5_copyCount 0 = .ok (.iload_n 1, 1) := by decide +kernel
theorem dX5_copyCount_1 : decode cX5_copyCount 1 = .ok (.iconst (-1), 1) := by decide +kernel
theorem dX5_copyCount_2 : decode cX5_copyCount 2 = .ok (.iconst 5, 1) := by decide +kernel
theorem dX5_copyCount_3 : decode cX5_copyCount 3 = .ok (.invokestatic 51, 3) := by decide +kernel
theorem dX5_copyCount_6 : decode cX5_copyCount 6 = .ok (.ifCond .ne 5, 3) := by decide +kernel
theorem dX5_copyCount_9 : decode cX5_copyCount 9 = .ok (.iconst (-1), 1) := by decide +kernel
theorem dX5_copyCount_10 : decode cX5_copyCount 10 = .ok (.ireturn, 1) := by decide +kernel
theorem dX5_copyCount_11 : decode cX5_copyCount 11 = .ok (.iconst 0, 1) := by decide +kernel
theorem dX5_copyCount_12 : decode cX5_copyCount 12 = .ok (.istore_n 2, 1) := by decide +kernel
theorem dX5_copyCount_13 : decode cX5_copyCount 13 = .ok (.iconst 0, 1) := by decide +kernel
theorem dX5_copyCount_14 : decode cX5_copyCount 14 = .ok (.istore_n 3, 1) := by decide +kernel
theorem dX5_copyCount_15 : decode cX5_copyCount 15 = .ok (.iload_n 3, 1) := by decide +kernel
theorem dX5_copyCount_16 : decode cX5_copyCount 16 = .ok (.aload_n 0, 1) := by decide +kernel
theorem dX5_copyCount_17 : decode cX5_copyCount 17 = .ok (.getfield 11, 3) := by decide +kernel
theorem dX5_copyCount_20 : decode cX5_copyCount 20 = .ok (.iconst 1, 1) := by decide +kernel
theorem dX5_copyCount_21 : decode cX5_copyCount 21 = .ok (.iaload, 1) := by decide +kernel
theorem dX5_copyCount_22 : decode cX5_copyCount 22 = .ok (.if_icmp .ge 31, 3) := by decide +kernel
theorem dX5_copyCount_25 : decode cX5_copyCount 25 = .ok (.iload_n 2, 1) := by decide +kernel
theorem dX5_copyCount_26 : decode cX5_copyCount 26 = .ok (.iload_n 1, 1) := by decide +kernel
theorem dX5_copyCount_27 : decode cX5_copyCount 27 = .ok (.ifCond .lt 13, 3) := by decide +kernel
theorem dX5_copyCount_30 : decode cX5_copyCount 30 = .ok (.aload_n 0, 1) := by decide +kernel
theorem dX5_copyCount_31 : decode cX5_copyCount 31 = .ok (.iload_n 3, 1) := by decide +kernel
theorem dX5_copyCount_32 : decode cX5_copyCount 32 = .ok (.iconst 3, 1) := by decide +kernel
theorem dX5_copyCount_33 : decode cX5_copyCount 33 = .ok (.invokevirtual 73, 3) := by decide +kernel
theorem dX5_copyCount_36 : decode cX5_copyCount 36 = .ok (.iload_n 1, 1) := by decide +kernel
theorem dX5_copyCount_37 : decode cX5_copyCount 37 = .ok (.if_icmp .ne 7, 3) := by decide +kernel
theorem dX5_copyCount_40 : decode cX5_copyCount 40 = .ok (.iconst 1, 1) := by decide +kernel
theorem dX5_copyCount_41 : decode cX5_copyCount 41 = .ok (.goto 4, 3) := by decide +kernel
theorem dX5_copyCount_44 : decode cX5_copyCount 44 = .ok (.iconst 0, 1) := by decide +kernel
theorem dX5_copyCount_45 : decode cX5_copyCount 45 = .ok (.iadd, 1) := by decide +kernel
theorem dX5_copyCount_46 : decode cX5_copyCount 46 = .ok (.istore_n 2, 1) := by decide +kernel
theorem dX5_copyCount_47 : decode cX5_copyCount 47 = .ok (.iinc 3 1, 3) := by decide +kernel
theorem dX5_copyCount_50 : decode cX5_copyCount 50 = .ok (.goto (-35), 3) := by decide +kernel
theorem dX5_copyCount_53 : decode cX5_copyCount 53 = .ok (.iload_n 2, 1) := by decide +kernel
theorem dX5_copyCount_54 : decode cX5_copyCount 54 = .ok (.ireturn, 1) := by decide +kernel
theorem dX5_copy_0 : decode cX5_copy 0 = .ok (.aload_n 0, 1) := by decide +kernel
theorem dX5_copy_1 : decode cX5_copy 1 = .ok (.iload_n 1, 1) := by decide +kernel
theorem dX5_copy_2 : decode cX5_copy 2 = .ok (.invokevirtual 113, 3) := by decide +kernel
theorem dX5_copy_5 : decode cX5_copy 5 = .ok (.ifCond .eq 13, 3) := by decide +kernel
theorem dX5_copy_8 : decode cX5_copy 8 = .ok (.iload_n 2, 1) := by decide +kernel
theorem dX5_copy_9 : decode cX5_copy 9 = .ok (.iconst 0, 1) := by decide +kernel
theorem dX5_copy_10 : decode cX5_copy 10 = .ok (.bipush 9, 2) := by decide +kernel
theorem dX5_copy_12 : decode cX5_copy 12 = .ok (.invokestatic 51, 3) := by decide +kernel
theorem dX5_copy_15 : decode cX5_copy 15 = .ok (.ifCond .ne 5, 3) := by decide +kernel
theorem dX5_copy_18 : decode cX5_copy 18 = .ok (.iconst (-1), 1) := by decide +kernel
theorem dX5_copy_19 : decode cX5_copy 19 = .ok (.ireturn, 1) := by decide +kernel
theorem dX5_copy_20 : decode cX5_copy 20 = .ok (.iload_n 2, 1) := by decide +kernel
theorem dX5_copy_21 : decode cX5_copy 21 = .ok (.iconst 5, 1) := by decide +kernel
theorem dX5_copy_22 : decode cX5_copy 22 = .ok (.if_icmp .ge 10, 3) := by decide +kernel
theorem dX5_copy_25 : decode cX5_copy 25 = .ok (.aload_n 0, 1) := by decide +kernel
theorem dX5_copy_26 : decode cX5_copy 26 = .ok (.iload_n 1, 1) := by decide +kernel
theorem dX5_copy_27 : decode cX5_copy 27 = .ok (.iload_n 2, 1) := by decide +kernel
theorem dX5_copy_28 : decode cX5_copy 28 = .ok (.invokevirtual 73, 3) := by decide +kernel
theorem dX5_copy_31 : decode cX5_copy 31 = .ok (.ireturn, 1) := by decide +kernel
theorem dX5_copy_32 : decode cX5_copy 32 = .ok (.aload_n 0, 1) := by decide +kernel
theorem dX5_copy_33 : decode cX5_copy 33 = .ok (.iload_n 1, 1) := by decide +kernel
theorem dX5_copy_34 : decode cX5_copy 34 = .ok (.iconst 3, 1) := by decide +kernel
theorem dX5_copy_35 : decode cX5_copy 35 = .ok (.invokevirtual 73, 3) := by decide +kernel
theorem dX5_copy_38 : decode cX5_copy 38 = .ok (.istore_n 3, 1) := by decide +kernel
theorem dX5_copy_39 : decode cX5_copy 39 = .ok (.iload_n 2, 1) := by decide +kernel
theorem dX5_copy_40 : decode cX5_copy 40 = .ok (.iconst 5, 1) := by decide +kernel
theorem dX5_copy_41 : decode cX5_copy 41 = .ok (.if_icmp .ne 43, 3) := by decide +kernel
theorem dX5_copy_44 : decode cX5_copy 44 = .ok (.iload_n 3, 1) := by decide +kernel
theorem dX5_copy_45 : decode cX5_copy 45 = .ok (.iconst 2, 1) := by decide +kernel
theorem dX5_copy_46 : decode cX5_copy 46 = .ok (.if_icmp .eq 8, 3) := by decide +kernel
theorem dX5_copy_49 : decode cX5_copy 49 = .ok (.iload_n 3, 1) := by decide +kernel
theorem dX5_copy_50 : decode cX5_copy 50 = .ok (.iconst 3, 1) := by decide +kernel
theorem dX5_copy_51 : decode cX5_copy 51 = .ok (.if_icmp .ne 11, 3) := by decide +kernel
theorem dX5_copy_54 : decode cX5_copy 54 = .ok (.aload_n 0, 1) := by decide +kernel
theorem dX5_copy_55 : decode cX5_copy 55 = .ok (.iload_n 1, 1) := by decide +kernel
theorem dX5_copy_56 : decode cX5_copy 56 = .ok (.invokevirtual 116, 3) := by decide +kernel
theorem dX5_copy_59 : decode cX5_copy 59 = .ok (.goto 5, 3) := by decide +kernel
theorem dX5_copy_62 : decode cX5_copy 62 = .ok (.bipush (-2), 2) := by decide +kernel
theorem dX5_copy_64 : decode cX5_copy 64 = .ok (.istore 4, 2) := by decide +kernel
theorem dX5_copy_66 : decode cX5_copy 66 = .ok (.iload 4, 2) := by decide +kernel
theorem dX5_copy_68 : decode cX5_copy 68 = .ok (.ifCond .ge 8, 3) := by decide +kernel
theorem dX5_copy_71 : decode cX5_copy 71 = .ok (.bipush (-2), 2) := by decide +kernel
theorem dX5_copy_73 : decode cX5_copy 73 = .ok (.goto 10, 3) := by decide +kernel
theorem dX5_copy_76 : decode cX5_copy 76 = .ok (.aload_n 0, 1) := by decide +kernel
theorem dX5_copy_77 : decode cX5_copy 77 = .ok (.iload 4, 2) := by decide +kernel
theorem dX5_copy_79 : decode cX5_copy 79 = .ok (.iconst 1, 1) := by decide +kernel
theorem dX5_copy_80 : decode cX5_copy 80 = .ok (.invokevirtual 59, 3) := by decide +kernel
theorem dX5_copy_83 : decode cX5_copy 83 = .ok (.ireturn, 1) := by decide +kernel
theorem dX5_copy_84 : decode cX5_copy 84 = .ok (.iload_n 2, 1) := by decide +kernel
theorem dX5_copy_85 : decode cX5_copy 85 = .ok (.bipush 6, 2) := by decide +kernel
theorem dX5_copy_87 : decode cX5_copy 87 = .ok (.if_icmp .ne 24, 3) := by decide +kernel
theorem dX5_copy_90 : decode cX5_copy 90 = .ok (.iload_n 3, 1) := by decide +kernel
theorem dX5_copy_91 : decode cX5_copy 91 = .ok (.ifCond .eq 8, 3) := by decide +kernel
theorem dX5_copy_94 : decode cX5_copy 94 = .ok (.iload_n 3, 1) := by decide +kernel
theorem dX5_copy_95 : decode cX5_copy 95 = .ok (.iconst 5, 1) := by decide +kernel
theorem dX5_copy_96 : decode cX5_copy 96 = .ok (.if_icmp .ne 8, 3) := by decide +kernel
theorem dX5_copy_99 : decode cX5_copy 99 = .ok (.bipush (-2), 2) := by decide +kernel
theorem dX5_copy_101 : decode cX5_copy 101 = .ok (.goto 9, 3) := by decide +kernel
theorem dX5_copy_104 : decode cX5_copy 104 = .ok (.aload_n 0, 1) := by decide +kernel
theorem dX5_copy_105 : decode cX5_copy 105 = .ok (.iload_n 1, 1) := by decide +kernel
theorem dX5_copy_106 : decode cX5_copy 106 = .ok (.iconst 5, 1) := by decide +kernel
theorem dX5_copy_107 : decode cX5_copy 107 = .ok (.invokevirtual 73, 3) := by decide +kernel
theorem dX5_copy_110 : decode cX5_copy 110 = .ok (.ireturn, 1) := by decide +kernel
theorem dX5_copy_111 : decode cX5_copy 111 = .ok (.iload_n 3, 1) := by decide +kernel
theorem dX5_copy_112 : decode cX5_copy 112 = .ok (.ifCond .eq 13, 3) := by decide +kernel
theorem dX5_copy_115 : decode cX5_copy 115 = .ok (.iload_n 3, 1) := by decide +kernel
theorem dX5_copy_116 : decode cX5_copy 116 = .ok (.iconst 2, 1) := by decide +kernel
theorem dX5_copy_117 : decode cX5_copy 117 = .ok (.if_icmp .eq 8, 3) := by decide +kernel
theorem dX5_copy_120 : decode cX5_copy 120 = .ok (.iload_n 3, 1) := by decide +kernel
theorem dX5_copy_121 : decode cX5_copy 121 = .ok (.iconst 3, 1) := by decide +kernel
theorem dX5_copy_122 : decode cX5_copy 122 = .ok (.if_icmp .ne 8, 3) := by decide +kernel
theorem dX5_copy_125 : decode cX5_copy 125 = .ok (.bipush (-2), 2) := by decide +kernel
theorem dX5_copy_127 : decode cX5_copy 127 = .ok (.goto 32, 3) := by decide +kernel
theorem dX5_copy_130 : decode cX5_copy 130 = .ok (.aload_n 0, 1) := by decide +kernel
theorem dX5_copy_131 : decode cX5_copy 131 = .ok (.iload_n 1, 1) := by decide +kernel
theorem dX5_copy_132 : decode cX5_copy 132 = .ok (.iload_n 2, 1) := by decide +kernel
theorem dX5_copy_133 : decode cX5_copy 133 = .ok (.bipush 7, 2) := by decide +kernel
theorem dX5_copy_135 : decode cX5_copy 135 = .ok (.if_icmp .ne 8, 3) := by decide +kernel
theorem dX5_copy_138 : decode cX5_copy 138 = .ok (.bipush 6, 2) := by decide +kernel
theorem dX5_copy_140 : decode cX5_copy 140 = .ok (.goto 16, 3) := by decide +kernel
theorem dX5_copy_143 : decode cX5_copy 143 = .ok (.iload_n 2, 1) := by decide +kernel
theorem dX5_copy_144 : decode cX5_copy 144 = .ok (.bipush 8, 2) := by decide +kernel
theorem dX5_copy_146 : decode cX5_copy 146 = .ok (.if_icmp .ne 8, 3) := by decide +kernel
theorem dX5_copy_149 : decode cX5_copy 149 = .ok (.bipush 7, 2) := by decide +kernel
theorem dX5_copy_151 : decode cX5_copy 151 = .ok (.goto 5, 3) := by decide +kernel
theorem dX5_copy_154 : decode cX5_copy 154 = .ok (.bipush 8, 2) := by decide +kernel
theorem dX5_copy_156 : decode cX5_copy 156 = .ok (.invokevirtual 73, 3) := by decide +kernel
theorem dX5_copy_159 : decode cX5_copy 159 = .ok (.ireturn, 1) := by decide +kernel
theorem dX5_day_0 : decode cX5_day 0 = .ok (.aload_n 0, 1) := by decide +kernel
theorem dX5_day_1 : decode cX5_day 1 = .ok (.getfield 11, 3) := by decide +kernel
theorem dX5_day_4 : decode cX5_day 4 = .ok (.iconst 0, 1) := by decide +kernel
theorem dX5_day_5 : decode cX5_day 5 = .ok (.iaload, 1) := by decide +kernel
theorem dX5_day_6 : decode cX5_day 6 = .ok (.ireturn, 1) := by decide +kernel
theorem dX5_arrive_0 : decode cX5_arrive 0 = .ok (.iconst 0, 1) := by decide +kernel
theorem dX5_arrive_1 : decode cX5_arrive 1 = .ok (.istore_n 1, 1) := by decide +kernel
theorem dX5_arrive_2 : decode cX5_arrive 2 = .ok (.iload_n 1, 1) := by decide +kernel
theorem dX5_arrive_3 : decode cX5_arrive 3 = .ok (.aload_n 0, 1) := by decide +kernel
theorem dX5_arrive_4 : decode cX5_arrive 4 = .ok (.getfield 11, 3) := by decide +kernel
theorem dX5_arrive_7 : decode cX5_arrive 7 = .ok (.iconst 1, 1) := by decide +kernel
theorem dX5_arrive_8 : decode cX5_arrive 8 = .ok (.iaload, 1) := by decide +kernel
theorem dX5_arrive_9 : decode cX5_arrive 9 = .ok (.if_icmp .ge 85, 3) := by decide +kernel
theorem dX5_arrive_12 : decode cX5_arrive 12 = .ok (.aload_n 0, 1) := by decide +kernel
theorem dX5_arrive_13 : decode cX5_arrive 13 = .ok (.iload_n 1, 1) := by decide +kernel
theorem dX5_arrive_14 : decode cX5_arrive 14 = .ok (.iconst 3, 1) := by decide +kernel
theorem dX5_arrive_15 : decode cX5_arrive 15 = .ok (.invokevirtual 73, 3) := by decide +kernel
theorem dX5_arrive_18 : decode cX5_arrive 18 = .ok (.iconst 2, 1) := by decide +kernel
theorem dX5_arrive_19 : decode cX5_arrive 19 = .ok (.if_icmp .ne 69, 3) := by decide +kernel
theorem dX5_arrive_22 : decode cX5_arrive 22 = .ok (.aload_n 0, 1) := by decide +kernel
theorem dX5_arrive_23 : decode cX5_arrive 23 = .ok (.iload_n 1, 1) := by decide +kernel
theorem dX5_arrive_24 : decode cX5_arrive 24 = .ok (.iconst 5, 1) := by decide +kernel
theorem dX5_arrive_25 : decode cX5_arrive 25 = .ok (.invokevirtual 73, 3) := by decide +kernel
theorem dX5_arrive_28 : decode cX5_arrive 28 = .ok (.aload_n 0, 1) := by decide +kernel
theorem dX5_arrive_29 : decode cX5_arrive 29 = .ok (.getfield 11, 3) := by decide +kernel
theorem dX5_arrive_32 : decode cX5_arrive 32 = .ok (.iconst 0, 1) := by decide +kernel
theorem dX5_arrive_33 : decode cX5_arrive 33 = .ok (.iaload, 1) := by decide +kernel
theorem dX5_arrive_34 : decode cX5_arrive 34 = .ok (.if_icmp .le 6, 3) := by decide +kernel
theorem dX5_arrive_37 : decode cX5_arrive 37 = .ok (.goto 51, 3) := by decide +kernel
theorem dX5_arrive_40 : decode cX5_arrive 40 = .ok (.aload_n 0, 1) := by decide +kernel
theorem dX5_arrive_41 : decode cX5_arrive 41 = .ok (.iload_n 1, 1) := by decide +kernel
theorem dX5_arrive_42 : decode cX5_arrive 42 = .ok (.invokevirtual 116, 3) := by decide +kernel
theorem dX5_arrive_45 : decode cX5_arrive 45 = .ok (.ifCond .lt 32, 3) := by decide +kernel
theorem dX5_arrive_48 : decode cX5_arrive 48 = .ok (.aload_n 0, 1) := by decide +kernel
theorem dX5_arrive_49 : decode cX5_arrive 49 = .ok (.iload_n 1, 1) := by decide +kernel
theorem dX5_arrive_50 : decode cX5_arrive 50 = .ok (.iconst 3, 1) := by decide +kernel
theorem dX5_arrive_51 : decode cX5_arrive 51 = .ok (.aload_n 0, 1) := by decide +kernel
theorem dX5_arrive_52 : decode cX5_arrive 52 = .ok (.iload_n 1, 1) := by decide +kernel
theorem dX5_arrive_53 : decode cX5_arrive 53 = .ok (.iconst 4, 1) := by decide +kernel
theorem dX5_arrive_54 : decode cX5_arrive 54 = .ok (.invokevirtual 73, 3) := by decide +kernel
theorem dX5_arrive_57 : decode cX5_arrive 57 = .ok (.aload_n 0, 1) := by decide +kernel
theorem dX5_arrive_58 : decode cX5_arrive 58 = .ok (.getfield 11, 3) := by decide +kernel
theorem dX5_arrive_61 : decode cX5_arrive 61 = .ok (.iconst 0, 1) := by decide +kernel
theorem dX5_arrive_62 : decode cX5_arrive 62 = .ok (.iaload, 1) := by decide +kernel
theorem dX5_arrive_63 : decode cX5_arrive 63 = .ok (.aload_n 0, 1) := by decide +kernel
theorem dX5_arrive_64 : decode cX5_arrive 64 = .ok (.getfield 11, 3) := by decide +kernel
theorem dX5_arrive_67 : decode cX5_arrive 67 = .ok (.bipush 10, 2) := by decide +kernel
theorem dX5_arrive_69 : decode cX5_arrive 69 = .ok (.iaload, 1) := by decide +kernel
theorem dX5_arrive_70 : decode cX5_arrive 70 = .ok (.iadd, 1) := by decide +kernel
theorem dX5_arrive_71 : decode cX5_arrive 71 = .ok (.invokevirtual 63, 3) := by decide +kernel
theorem dX5_arrive_74 : decode cX5_arrive 74 = .ok (.goto 14, 3) := by decide +kernel
theorem dX5_arrive_77 : decode cX5_arrive 77 = .ok (.aload_n 0, 1) := by decide +kernel
theorem dX5_arrive_78 : decode cX5_arrive 78 = .ok (.iload_n 1, 1) := by decide +kernel
theorem dX5_arrive_79 : decode cX5_arrive 79 = .ok (.aload_n 0, 1) := by decide +kernel
theorem dX5_arrive_80 : decode cX5_arrive 80 = .ok (.iload_n 1, 1) := by decide +kernel
theorem dX5_arrive_81 : decode cX5_arrive 81 = .ok (.iconst 4, 1) := by decide +kernel
theorem dX5_arrive_82 : decode cX5_arrive 82 = .ok (.invokevirtual 73, 3) := by decide +kernel
theorem dX5_arrive_85 : decode cX5_arrive 85 = .ok (.invokevirtual 99, 3) := by decide +kernel
theorem dX5_arrive_88 : decode cX5_arrive 88 = .ok (.iinc 1 1, 3) := by decide +kernel
theorem dX5_arrive_91 : decode cX5_arrive 91 = .ok (.goto (-89), 3) := by decide +kernel
theorem dX5_arrive_94 : decode cX5_arrive 94 = .ok (.return_, 1) := by decide +kernel
theorem dX5_expire_0 : decode cX5_expire 0 = .ok (.iconst 0, 1) := by decide +kernel
theorem dX5_expire_1 : decode cX5_expire 1 = .ok (.istore_n 1, 1) := by decide +kernel
theorem dX5_expire_2 : decode cX5_expire 2 = .ok (.iload_n 1, 1) := by decide +kernel
theorem dX5_expire_3 : decode cX5_expire 3 = .ok (.aload_n 0, 1) := by decide +kernel
theorem dX5_expire_4 : decode cX5_expire 4 = .ok (.getfield 11, 3) := by decide +kernel
theorem dX5_expire_7 : decode cX5_expire 7 = .ok (.iconst 1, 1) := by decide +kernel
theorem dX5_expire_8 : decode cX5_expire 8 = .ok (.iaload, 1) := by decide +kernel
theorem dX5_expire_9 : decode cX5_expire 9 = .ok (.if_icmp .ge 57, 3) := by decide +kernel
theorem dX5_expire_12 : decode cX5_expire 12 = .ok (.aload_n 0, 1) := by decide +kernel
theorem dX5_expire_13 : decode cX5_expire 13 = .ok (.iload_n 1, 1) := by decide +kernel
theorem dX5_expire_14 : decode cX5_expire 14 = .ok (.iconst 3, 1) := by decide +kernel
theorem dX5_expire_15 : decode cX5_expire 15 = .ok (.invokevirtual 73, 3) := by decide +kernel
theorem dX5_expire_18 : decode cX5_expire 18 = .ok (.iconst 3, 1) := by decide +kernel
theorem dX5_expire_19 : decode cX5_expire 19 = .ok (.if_icmp .ne 41, 3) := by decide +kernel
theorem dX5_expire_22 : decode cX5_expire 22 = .ok (.aload_n 0, 1) := by decide +kernel
theorem dX5_expire_23 : decode cX5_expire 23 = .ok (.iload_n 1, 1) := by decide +kernel
theorem dX5_expire_24 : decode cX5_expire 24 = .ok (.iconst 5, 1) := by decide +kernel
theorem dX5_expire_25 : decode cX5_expire 25 = .ok (.invokevirtual 73, 3) := by decide +kernel
theorem dX5_expire_28 : decode cX5_expire 28 = .ok (.aload_n 0, 1) := by decide +kernel
theorem dX5_expire_29 : decode cX5_expire 29 = .ok (.getfield 11, 3) := by decide +kernel
theorem dX5_expire_32 : decode cX5_expire 32 = .ok (.iconst 0, 1) := by decide +kernel
theorem dX5_expire_33 : decode cX5_expire 33 = .ok (.iaload, 1) := by decide +kernel
theorem dX5_expire_34 : decode cX5_expire 34 = .ok (.if_icmp .lt 6, 3) := by decide +kernel
theorem dX5_expire_37 : decode cX5_expire 37 = .ok (.goto 23, 3) := by decide +kernel
theorem dX5_expire_40 : decode cX5_expire 40 = .ok (.aload_n 0, 1) := by decide +kernel
theorem dX5_expire_41 : decode cX5_expire 41 = .ok (.aload_n 0, 1) := by decide +kernel
theorem dX5_expire_42 : decode cX5_expire 42 = .ok (.iload_n 1, 1) := by decide +kernel
theorem dX5_expire_43 : decode cX5_expire 43 = .ok (.invokevirtual 116, 3) := by decide +kernel
theorem dX5_expire_46 : decode cX5_expire 46 = .ok (.invokevirtual 119, 3) := by decide +kernel
theorem dX5_expire_49 : decode cX5_expire 49 = .ok (.aload_n 0, 1) := by decide +kernel
theorem dX5_expire_50 : decode cX5_expire 50 = .ok (.iload_n 1, 1) := by decide +kernel
theorem dX5_expire_51 : decode cX5_expire 51 = .ok (.aload_n 0, 1) := by decide +kernel
theorem dX5_expire_52 : decode cX5_expire 52 = .ok (.iload_n 1, 1) := by decide +kernel
theorem dX5_expire_53 : decode cX5_expire 53 = .ok (.iconst 4, 1) := by decide +kernel
theorem dX5_expire_54 : decode cX5_expire 54 = .ok (.invokevirtual 73, 3) := by decide +kernel
theorem dX5_expire_57 : decode cX5_expire 57 = .ok (.invokevirtual 99, 3) := by decide +kernel
theorem dX5_expire_60 : decode cX5_expire 60 = .ok (.iinc 1 1, 3) := by decide +kernel
theorem dX5_expire_63 : decode cX5_expire 63 = .ok (.goto (-61), 3) := by decide +kernel
theorem dX5_expire_66 : decode cX5_expire 66 = .ok (.return_, 1) := by decide +kernel
theorem dX5_loses_0 : decode cX5_loses 0 = .ok (.aload_n 0, 1) := by decide +kernel
theorem dX5_loses_1 : decode cX5_loses 1 = .ok (.iload_n 1, 1) := by decide +kernel
theorem dX5_loses_2 : decode cX5_loses 2 = .ok (.iconst 3, 1) := by decide +kernel
theorem dX5_loses_3 : decode cX5_loses 3 = .ok (.invokevirtual 73, 3) := by decide +kernel
theorem dX5_loses_6 : decode cX5_loses 6 = .ok (.iconst 1, 1) := by decide +kernel
theorem dX5_loses_7 : decode cX5_loses 7 = .ok (.if_icmp .ne 15, 3) := by decide +kernel
theorem dX5_loses_10 : decode cX5_loses 10 = .ok (.aload_n 0, 1) := by decide +kernel
theorem dX5_loses_11 : decode cX5_loses 11 = .ok (.iload_n 1, 1) := by decide +kernel
theorem dX5_loses_12 : decode cX5_loses 12 = .ok (.bipush 9, 2) := by decide +kernel
theorem dX5_loses_14 : decode cX5_loses 14 = .ok (.aload_n 0, 1) := by decide +kernel
theorem dX5_loses_15 : decode cX5_loses 15 = .ok (.iload_n 1, 1) := by decide +kernel
theorem dX5_loses_16 : decode cX5_loses 16 = .ok (.invokevirtual 123, 3) := by decide +kernel
theorem dX5_loses_19 : decode cX5_loses 19 = .ok (.invokevirtual 55, 3) := by decide +kernel
theorem dX5_loses_22 : decode cX5_loses 22 = .ok (.aload_n 0, 1) := by decide +kernel
theorem dX5_loses_23 : decode cX5_loses 23 = .ok (.iload_n 1, 1) := by decide +kernel
theorem dX5_loses_24 : decode cX5_loses 24 = .ok (.iconst 5, 1) := by decide +kernel
theorem dX5_loses_25 : decode cX5_loses 25 = .ok (.aload_n 0, 1) := by decide +kernel
theorem dX5_loses_26 : decode cX5_loses 26 = .ok (.iload_n 1, 1) := by decide +kernel
theorem dX5_loses_27 : decode cX5_loses 27 = .ok (.iconst 4, 1) := by decide +kernel
theorem dX5_loses_28 : decode cX5_loses 28 = .ok (.invokevirtual 73, 3) := by decide +kernel
theorem dX5_loses_31 : decode cX5_loses 31 = .ok (.iconst 0, 1) := by decide +kernel
theorem dX5_loses_32 : decode cX5_loses 32 = .ok (.invokevirtual 63, 3) := by decide +kernel
theorem dX5_loses_35 : decode cX5_loses 35 = .ok (.aload_n 0, 1) := by decide +kernel
theorem dX5_loses_36 : decode cX5_loses 36 = .ok (.iload_n 1, 1) := by decide +kernel
theorem dX5_loses_37 : decode cX5_loses 37 = .ok (.bipush 10, 2) := by decide +kernel
theorem dX5_loses_39 : decode cX5_loses 39 = .ok (.aload_n 0, 1) := by decide +kernel
theorem dX5_loses_40 : decode cX5_loses 40 = .ok (.getfield 11, 3) := by decide +kernel
theorem dX5_loses_43 : decode cX5_loses 43 = .ok (.bipush 11, 2) := by decide +kernel
theorem dX5_loses_45 : decode cX5_loses 45 = .ok (.iaload, 1) := by decide +kernel
theorem dX5_loses_46 : decode cX5_loses 46 = .ok (.invokevirtual 55, 3) := by decide +kernel
theorem dX5_loses_49 : decode cX5_loses 49 = .ok (.aload_n 0, 1) := by decide +kernel
theorem dX5_loses_50 : decode cX5_loses 50 = .ok (.iconst 1, 1) := by decide +kernel
theorem dX5_loses_51 : decode cX5_loses 51 = .ok (.aload_n 0, 1) := by decide +kernel
theorem dX5_loses_52 : decode cX5_loses 52 = .ok (.iload_n 1, 1) := by decide +kernel
theorem dX5_loses_53 : decode cX5_loses 53 = .ok (.iconst 4, 1) := by decide +kernel
theorem dX5_loses_54 : decode cX5_loses 54 = .ok (.invokevirtual 73, 3) := by decide +kernel
theorem dX5_loses_57 : decode cX5_loses 57 = .ok (.aload_n 0, 1) := by decide +kernel
theorem dX5_loses_58 : decode cX5_loses 58 = .ok (.getfield 11, 3) := by decide +kernel
theorem dX5_loses_61 : decode cX5_loses 61 = .ok (.bipush 11, 2) := by decide +kernel
theorem dX5_loses_63 : decode cX5_loses 63 = .ok (.iaload, 1) := by decide +kernel
theorem dX5_loses_64 : decode cX5_loses 64 = .ok (.iload_n 1, 1) := by decide +kernel
theorem dX5_loses_65 : decode cX5_loses 65 = .ok (.invokevirtual 126, 3) := by decide +kernel
theorem dX5_loses_68 : decode cX5_loses 68 = .ok (.return_, 1) := by decide +kernel
theorem dX5_passes_0 : decode cX5_passes 0 = .ok (.iload_n 1, 1) := by decide +kernel
theorem dX5_passes_1 : decode cX5_passes 1 = .ok (.iconst 1, 1) := by decide +kernel
theorem dX5_passes_2 : decode cX5_passes 2 = .ok (.sipush 400, 3) := by decide +kernel
theorem dX5_passes_5 : decode cX5_passes 5 = .ok (.invokestatic 51, 3) := by decide +kernel
theorem dX5_passes_8 : decode cX5_passes 8 = .ok (.ifCond .ne 5, 3) := by decide +kernel
theorem dX5_passes_11 : decode cX5_passes 11 = .ok (.iconst (-1), 1) := by decide +kernel
theorem dX5_passes_12 : decode cX5_passes 12 = .ok (.ireturn, 1) := by decide +kernel
theorem dX5_passes_13 : decode cX5_passes 13 = .ok (.iconst 0, 1) := by decide +kernel
theorem dX5_passes_14 : decode cX5_passes 14 = .ok (.istore_n 2, 1) := by decide +kernel
theorem dX5_passes_15 : decode cX5_passes 15 = .ok (.iload_n 2, 1) := by decide +kernel
theorem dX5_passes_16 : decode cX5_passes 16 = .ok (.iload_n 1, 1) := by decide +kernel
theorem dX5_passes_17 : decode cX5_passes 17 = .ok (.if_icmp .ge 83, 3) := by decide +kernel
theorem dX5_passes_20 : decode cX5_passes 20 = .ok (.aload_n 0, 1) := by decide +kernel
theorem dX5_passes_21 : decode cX5_passes 21 = .ok (.getfield 11, 3) := by decide +kernel
theorem dX5_passes_24 : decode cX5_passes 24 = .ok (.iconst 0, 1) := by decide +kernel
theorem dX5_passes_25 : decode cX5_passes 25 = .ok (.dup2, 1) := by decide +kernel
theorem dX5_passes_26 : decode cX5_passes 26 = .ok (.iaload, 1) := by decide +kernel
theorem dX5_passes_27 : decode cX5_passes 27 = .ok (.iconst 1, 1) := by decide +kernel
theorem dX5_passes_28 : decode cX5_passes 28 = .ok (.iadd, 1) := by decide +kernel
theorem dX5_passes_29 : decode cX5_passes 29 = .ok (.iastore, 1) := by decide +kernel
theorem dX5_passes_30 : decode cX5_passes 30 = .ok (.aload_n 0, 1) := by decide +kernel
theorem dX5_passes_31 : decode cX5_passes 31 = .ok (.invokevirtual 129, 3) := by decide +kernel
theorem dX5_passes_34 : decode cX5_passes 34 = .ok (.aload_n 0, 1) := by decide +kernel
theorem dX5_passes_35 : decode cX5_passes 35 = .ok (.invokevirtual 132, 3) := by decide +kernel
theorem dX5_passes_38 : decode cX5_passes 38 = .ok (.iconst 0, 1) := by decide +kernel
theorem dX5_passes_39 : decode cX5_passes 39 = .ok (.istore_n 3, 1) := by decide +kernel
theorem dX5_passes_40 : decode cX5_passes 40 = .ok (.iload_n 3, 1) := by decide +kernel
theorem dX5_passes_41 : decode cX5_passes 41 = .ok (.aload_n 0, 1) := by decide +kernel
theorem dX5_passes_42 : decode cX5_passes 42 = .ok (.getfield 11, 3) := by decide +kernel
theorem dX5_passes_45 : decode cX5_passes 45 = .ok (.iconst 1, 1) := by decide +kernel
theorem dX5_passes_46 : decode cX5_passes 46 = .ok (.iaload, 1) := by decide +kernel
theorem dX5_passes_47 : decode cX5_passes 47 = .ok (.if_icmp .ge 47, 3) := by decide +kernel
theorem dX5_passes_50 : decode cX5_passes 50 = .ok (.aload_n 0, 1) := by decide +kernel
theorem dX5_passes_51 : decode cX5_passes 51 = .ok (.iload_n 3, 1) := by decide +kernel
theorem dX5_passes_52 : decode cX5_passes 52 = .ok (.iconst 3, 1) := by decide +kernel
theorem dX5_passes_53 : decode cX5_passes 53 = .ok (.invokevirtual 73, 3) := by decide +kernel
theorem dX5_passes_56 : decode cX5_passes 56 = .ok (.iconst 4, 1) := by decide +kernel
theorem dX5_passes_57 : decode cX5_passes 57 = .ok (.if_icmp .ne 31, 3) := by decide +kernel
theorem dX5_passes_60 : decode cX5_passes 60 = .ok (.aload_n 0, 1) := by decide +kernel
theorem dX5_passes_61 : decode cX5_passes 61 = .ok (.getfield 11, 3) := by decide +kernel
theorem dX5_passes_64 : decode cX5_passes 64 = .ok (.iconst 0, 1) := by decide +kernel
theorem dX5_passes_65 : decode cX5_passes 65 = .ok (.iaload, 1) := by decide +kernel
theorem dX5_passes_66 : decode cX5_passes 66 = .ok (.aload_n 0, 1) := by decide +kernel
theorem dX5_passes_67 : decode cX5_passes 67 = .ok (.iload_n 3, 1) := by decide +kernel
theorem dX5_passes_68 : decode cX5_passes 68 = .ok (.iconst 5, 1) := by decide +kernel
theorem dX5_passes_69 : decode cX5_passes 69 = .ok (.invokevirtual 73, 3) := by decide +kernel
theorem dX5_passes_72 : decode cX5_passes 72 = .ok (.isub, 1) := by decide +kernel
theorem dX5_passes_73 : decode cX5_passes 73 = .ok (.aload_n 0, 1) := by decide +kernel
theorem dX5_passes_74 : decode cX5_passes 74 = .ok (.getfield 11, 3) := by decide +kernel
theorem dX5_passes_77 : decode cX5_passes 77 = .ok (.bipush 12, 2) := by decide +kernel
theorem dX5_passes_79 : decode cX5_passes 79 = .ok (.iaload, 1) := by decide +kernel
theorem dX5_passes_80 : decode cX5_passes 80 = .ok (.if_icmp .lt 8, 3) := by decide +kernel
theorem dX5_passes_83 : decode cX5_passes 83 = .ok (.aload_n 0, 1) := by decide +kernel
theorem dX5_passes_84 : decode cX5_passes 84 = .ok (.iload_n 3, 1) := by decide +kernel
theorem dX5_passes_85 : decode cX5_passes 85 = .ok (.invokevirtual 135, 3) := by decide +kernel
theorem dX5_passes_88 : decode cX5_passes 88 = .ok (.iinc 3 1, 3) := by decide +kernel
theorem dX5_passes_91 : decode cX5_passes 91 = .ok (.goto (-51), 3) := by decide +kernel
theorem dX5_passes_94 : decode cX5_passes 94 = .ok (.iinc 2 1, 3) := by decide +kernel
theorem dX5_passes_97 : decode cX5_passes 97 = .ok (.goto (-82), 3) := by decide +kernel
theorem dX5_passes_100 : decode cX5_passes 100 = .ok (.aload_n 0, 1) := by decide +kernel
theorem dX5_passes_101 : decode cX5_passes 101 = .ok (.getfield 11, 3) := by decide +kernel
theorem dX5_passes_104 : decode cX5_passes 104 = .ok (.iconst 0, 1) := by decide +kernel
theorem dX5_passes_105 : decode cX5_passes 105 = .ok (.iaload, 1) := by decide +kernel
theorem dX5_passes_106 : decode cX5_passes 106 = .ok (.ireturn, 1) := by decide +kernel
theorem dX5_pass_0 : decode cX5_pass 0 = .ok (.aload_n 0, 1) := by decide +kernel
theorem dX5_pass_1 : decode cX5_pass 1 = .ok (.invokevirtual 96, 3) := by decide +kernel
theorem dX5_pass_4 : decode cX5_pass 4 = .ok (.aload_n 0, 1) := by decide +kernel
theorem dX5_pass_5 : decode cX5_pass 5 = .ok (.aload_n 0, 1) := by decide +kernel
theorem dX5_pass_6 : decode cX5_pass 6 = .ok (.iload_n 1, 1) := by decide +kernel
theorem dX5_pass_7 : decode cX5_pass 7 = .ok (.invokevirtual 138, 3) := by decide +kernel
theorem dX5_pass_10 : decode cX5_pass 10 = .ok (.invokevirtual 103, 3) := by decide +kernel
theorem dX5_pass_13 : decode cX5_pass 13 = .ok (.ireturn, 1) := by decide +kernel
theorem dX5_reasonToLend_0 : decode cX5_reasonToLend 0 = .ok (.aload_n 0, 1) := by decide +kernel
theorem dX5_reasonToLend_1 : decode cX5_reasonToLend 1 = .ok (.iload_n 1, 1) := by decide +kernel
theorem dX5_reasonToLend_2 : decode cX5_reasonToLend 2 = .ok (.invokevirtual 141, 3) := by decide +kernel
theorem dX5_reasonToLend_5 : decode cX5_reasonToLend 5 = .ok (.ifCond .eq 5, 3) := by decide +kernel
theorem dX5_reasonToLend_8 : decode cX5_reasonToLend 8 = .ok (.iconst 1, 1) := by decide +kernel
theorem dX5_reasonToLend_9 : decode cX5_reasonToLend 9 = .ok (.ireturn, 1) := by decide +kernel
theorem dX5_reasonToLend_10 : decode cX5_reasonToLend 10 = .ok (.aload_n 0, 1) := by decide +kernel
theorem dX5_reasonToLend_11 : decode cX5_reasonToLend 11 = .ok (.iload_n 1, 1) := by decide +kernel
theorem dX5_reasonToLend_12 : decode cX5_reasonToLend 12 = .ok (.invokevirtual 144, 3) := by decide +kernel
theorem dX5_reasonToLend_15 : decode cX5_reasonToLend 15 = .ok (.aload_n 0, 1) := by decide +kernel
theorem dX5_reasonToLend_16 : decode cX5_reasonToLend 16 = .ok (.getfield 11, 3) := by decide +kernel
theorem dX5_reasonToLend_19 : decode cX5_reasonToLend 19 = .ok (.bipush 6, 2) := by decide +kernel
theorem dX5_reasonToLend_21 : decode cX5_reasonToLend 21 = .ok (.iaload, 1) := by decide +kernel
theorem dX5_reasonToLend_22 : decode cX5_reasonToLend 22 = .ok (.if_icmp .lt 5, 3) := by decide +kernel
theorem dX5_reasonToLend_25 : decode cX5_reasonToLend 25 = .ok (.iconst 2, 1) := by decide +kernel
theorem dX5_reasonToLend_26 : decode cX5_reasonToLend 26 = .ok (.ireturn, 1) := by decide +kernel
theorem dX5_reasonToLend_27 : decode cX5_reasonToLend 27 = .ok (.aload_n 0, 1) := by decide +kernel
theorem dX5_reasonToLend_28 : decode cX5_reasonToLend 28 = .ok (.iload_n 2, 1) := by decide +kernel
theorem dX5_reasonToLend_29 : decode cX5_reasonToLend 29 = .ok (.iconst 3, 1) := by decide +kernel
theorem dX5_reasonToLend_30 : decode cX5_reasonToLend 30 = .ok (.invokevirtual 73, 3) := by decide +kernel
theorem dX5_reasonToLend_33 : decode cX5_reasonToLend 33 = .ok (.iconst 3, 1) := by decide +kernel
theorem dX5_reasonToLend_34 : decode cX5_reasonToLend 34 = .ok (.if_icmp .ne 21, 3) := by decide +kernel
theorem dX5_reasonToLend_37 : decode cX5_reasonToLend 37 = .ok (.aload_n 0, 1) := by decide +kernel
theorem dX5_reasonToLend_38 : decode cX5_reasonToLend 38 = .ok (.aload_n 0, 1) := by decide +kernel
theorem dX5_reasonToLend_39 : decode cX5_reasonToLend 39 = .ok (.iload_n 2, 1) := by decide +kernel
theorem dX5_reasonToLend_40 : decode cX5_reasonToLend 40 = .ok (.invokevirtual 116, 3) := by decide +kernel
theorem dX5_reasonToLend_43 : decode cX5_reasonToLend 43 = .ok (.iconst 1, 1) := by decide +kernel
theorem dX5_reasonToLend_44 : decode cX5_reasonToLend 44 = .ok (.invokevirtual 59, 3) := by decide +kernel
theorem dX5_reasonToLend_47 : decode cX5_reasonToLend 47 = .ok (.iload_n 1, 1) := by decide +kernel
theorem dX5_reasonToLend_48 : decode cX5_reasonToLend 48 = .ok (.if_icmp .ne 7, 3) := by decide +kernel
theorem dX5_reasonToLend_51 : decode cX5_reasonToLend 51 = .ok (.iconst 1, 1) := by decide +kernel
theorem dX5_reasonToLend_52 : decode cX5_reasonToLend 52 = .ok (.goto 4, 3) := by decide +kernel
theorem dX5_reasonToLend_55 : decode cX5_reasonToLend 55 = .ok (.iconst 0, 1) := by decide +kernel
theorem dX5_reasonToLend_56 : decode cX5_reasonToLend 56 = .ok (.istore_n 3, 1) := by decide +kernel
theorem dX5_reasonToLend_57 : decode cX5_reasonToLend 57 = .ok (.aload_n 0, 1) := by decide +kernel
theorem dX5_reasonToLend_58 : decode cX5_reasonToLend 58 = .ok (.iload_n 2, 1) := by decide +kernel
theorem dX5_reasonToLend_59 : decode cX5_reasonToLend 59 = .ok (.iconst 3, 1) := by decide +kernel
theorem dX5_reasonToLend_60 : decode cX5_reasonToLend 60 = .ok (.invokevirtual 73, 3) := by decide +kernel
theorem dX5_reasonToLend_63 : decode cX5_reasonToLend 63 = .ok (.ifCond .eq 7, 3) := by decide +kernel
theorem dX5_reasonToLend_66 : decode cX5_reasonToLend 66 = .ok (.iload_n 3, 1) := by decide +kernel
theorem dX5_reasonToLend_67 : decode cX5_reasonToLend 67 = .ok (.ifCond .eq 7, 3) := by decide +kernel
theorem dX5_reasonToLend_70 : decode cX5_reasonToLend 70 = .ok (.iconst 0, 1) := by decide +kernel
theorem dX5_reasonToLend_71 : decode cX5_reasonToLend 71 = .ok (.goto 4, 3) := by decide +kernel
theorem dX5_reasonToLend_74 : decode cX5_reasonToLend 74 = .ok (.iconst 3, 1) := by decide +kernel
theorem dX5_reasonToLend_75 : decode cX5_reasonToLend 75 = .ok (.ireturn, 1) := by decide +kernel
theorem dX5_lends_0 : decode cX5_lends 0 = .ok (.aload_n 0, 1) := by decide +kernel
theorem dX5_lends_1 : decode cX5_lends 1 = .ok (.iload_n 1, 1) := by decide +kernel
theorem dX5_lends_2 : decode cX5_lends 2 = .ok (.invokevirtual 147, 3) := by decide +kernel
theorem dX5_lends_5 : decode cX5_lends 5 = .ok (.ifCond .eq 11, 3) := by decide +kernel
theorem dX5_lends_8 : decode cX5_lends 8 = .ok (.aload_n 0, 1) := by decide +kernel
theorem dX5_lends_9 : decode cX5_lends 9 = .ok (.iload_n 2, 1) := by decide +kernel
theorem dX5_lends_10 : decode cX5_lends 10 = .ok (.invokevirtual 113, 3) := by decide +kernel
theorem dX5_lends_13 : decode cX5_lends 13 = .ok (.ifCond .ne 5, 3) := by decide +kernel
theorem dX5_lends_16 : decode cX5_lends 16 = .ok (.iconst (-1), 1) := by decide +kernel
theorem dX5_lends_17 : decode cX5_lends 17 = .ok (.ireturn, 1) := by decide +kernel
theorem dX5_lends_18 : decode cX5_lends 18 = .ok (.aload_n 0, 1) := by decide +kernel
theorem dX5_lends_19 : decode cX5_lends 19 = .ok (.iload_n 1, 1) := by decide +kernel
theorem dX5_lends_20 : decode cX5_lends 20 = .ok (.iload_n 2, 1) := by decide +kernel
theorem dX5_lends_21 : decode cX5_lends 21 = .ok (.invokevirtual 150, 3) := by decide +kernel
theorem dX5_lends_24 : decode cX5_lends 24 = .ok (.istore_n 3, 1) := by decide +kernel
theorem dX5_lends_25 : decode cX5_lends 25 = .ok (.iload_n 3, 1) := by decide +kernel
theorem dX5_lends_26 : decode cX5_lends 26 = .ok (.ifCond .le 8, 3) := by decide +kernel
theorem dX5_lends_29 : decode cX5_lends 29 = .ok (.bipush (-100), 2) := by decide +kernel
theorem dX5_lends_31 : decode cX5_lends 31 = .ok (.iload_n 3, 1) := by decide +kernel
theorem dX5_lends_32 : decode cX5_lends 32 = .ok (.isub, 1) := by decide +kernel
theorem dX5_lends_33 : decode cX5_lends 33 = .ok (.ireturn, 1) := by decide +kernel
theorem dX5_lends_34 : decode cX5_lends 34 = .ok (.aload_n 0, 1) := by decide +kernel
theorem dX5_lends_35 : decode cX5_lends 35 = .ok (.iload_n 2, 1) := by decide +kernel
theorem dX5_lends_36 : decode cX5_lends 36 = .ok (.iconst 3, 1) := by decide +kernel
theorem dX5_lends_37 : decode cX5_lends 37 = .ok (.invokevirtual 73, 3) := by decide +kernel
theorem dX5_lends_40 : decode cX5_lends 40 = .ok (.iconst 3, 1) := by decide +kernel
theorem dX5_lends_41 : decode cX5_lends 41 = .ok (.if_icmp .ne 12, 3) := by decide +kernel
theorem dX5_lends_44 : decode cX5_lends 44 = .ok (.aload_n 0, 1) := by decide +kernel
theorem dX5_lends_45 : decode cX5_lends 45 = .ok (.aload_n 0, 1) := by decide +kernel
theorem dX5_lends_46 : decode cX5_lends 46 = .ok (.iload_n 2, 1) := by decide +kernel
theorem dX5_lends_47 : decode cX5_lends 47 = .ok (.invokevirtual 116, 3) := by decide +kernel
theorem dX5_lends_50 : decode cX5_lends 50 = .ok (.invokevirtual 119, 3) := by decide +kernel
theorem dX5_lends_53 : decode cX5_lends 53 = .ok (.aload_n 0, 1) := by decide +kernel
theorem dX5_lends_54 : decode cX5_lends 54 = .ok (.iload_n 2, 1) := by decide +kernel
theorem dX5_lends_55 : decode cX5_lends 55 = .ok (.iconst 1, 1) := by decide +kernel
theorem dX5_lends_56 : decode cX5_lends 56 = .ok (.iload_n 1, 1) := by decide +kernel
theorem dX5_lends_57 : decode cX5_lends 57 = .ok (.aload_n 0, 1) := by decide +kernel
theorem dX5_lends_58 : decode cX5_lends 58 = .ok (.getfield 11, 3) := by decide +kernel
theorem dX5_lends_61 : decode cX5_lends 61 = .ok (.iconst 0, 1) := by decide +kernel
theorem dX5_lends_62 : decode cX5_lends 62 = .ok (.iaload, 1) := by decide +kernel
theorem dX5_lends_63 : decode cX5_lends 63 = .ok (.aload_n 0, 1) := by decide +kernel
theorem dX5_lends_64 : decode cX5_lends 64 = .ok (.getfield 11, 3) := by decide +kernel
theorem dX5_lends_67 : decode cX5_lends 67 = .ok (.iconst 5, 1) := by decide +kernel
theorem dX5_lends_68 : decode cX5_lends 68 = .ok (.iaload, 1) := by decide +kernel
theorem dX5_lends_69 : decode cX5_lends 69 = .ok (.iadd, 1) := by decide +kernel
theorem dX5_lends_70 : decode cX5_lends 70 = .ok (.invokevirtual 63, 3) := by decide +kernel
theorem dX5_lends_73 : decode cX5_lends 73 = .ok (.aload_n 0, 1) := by decide +kernel
theorem dX5_lends_74 : decode cX5_lends 74 = .ok (.iload_n 2, 1) := by decide +kernel
theorem dX5_lends_75 : decode cX5_lends 75 = .ok (.bipush 6, 2) := by decide +kernel
theorem dX5_lends_77 : decode cX5_lends 77 = .ok (.aload_n 0, 1) := by decide +kernel
theorem dX5_lends_78 : decode cX5_lends 78 = .ok (.getfield 11, 3) := by decide +kernel
theorem dX5_lends_81 : decode cX5_lends 81 = .ok (.iconst 0, 1) := by decide +kernel
theorem dX5_lends_82 : decode cX5_lends 82 = .ok (.iaload, 1) := by decide +kernel
theorem dX5_lends_83 : decode cX5_lends 83 = .ok (.invokevirtual 55, 3) := by decide +kernel
theorem dX5_lends_86 : decode cX5_lends 86 = .ok (.aload_n 0, 1) := by decide +kernel
theorem dX5_lends_87 : decode cX5_lends 87 = .ok (.iload_n 2, 1) := by decide +kernel
theorem dX5_lends_88 : decode cX5_lends 88 = .ok (.bipush 7, 2) := by decide +kernel
theorem dX5_lends_90 : decode cX5_lends 90 = .ok (.iconst 0, 1) := by decide +kernel
theorem dX5_lends_91 : decode cX5_lends 91 = .ok (.invokevirtual 55, 3) := by decide +kernel
theorem dX5_lends_94 : decode cX5_lends 94 = .ok (.aload_n 0, 1) := by decide +kernel
theorem dX5_lends_95 : decode cX5_lends 95 = .ok (.iload_n 2, 1) := by decide +kernel
theorem dX5_lends_96 : decode cX5_lends 96 = .ok (.bipush 8, 2) := by decide +kernel
theorem dX5_lends_98 : decode cX5_lends 98 = .ok (.iconst 0, 1) := by decide +kernel
theorem dX5_lends_99 : decode cX5_lends 99 = .ok (.invokevirtual 55, 3) := by decide +kernel
theorem dX5_lends_102 : decode cX5_lends 102 = .ok (.aload_n 0, 1) := by decide +kernel
theorem dX5_lends_103 : decode cX5_lends 103 = .ok (.iload_n 2, 1) := by decide +kernel
theorem dX5_lends_104 : decode cX5_lends 104 = .ok (.iconst 5, 1) := by decide +kernel
theorem dX5_lends_105 : decode cX5_lends 105 = .ok (.invokevirtual 73, 3) := by decide +kernel
theorem dX5_lends_108 : decode cX5_lends 108 = .ok (.ireturn, 1) := by decide +kernel
theorem dX5_lend_0 : decode cX5_lend 0 = .ok (.aload_n 0, 1) := by decide +kernel
theorem dX5_lend_1 : decode cX5_lend 1 = .ok (.invokevirtual 96, 3) := by decide +kernel
theorem dX5_lend_4 : decode cX5_lend 4 = .ok (.aload_n 0, 1) := by decide +kernel
theorem dX5_lend_5 : decode cX5_lend 5 = .ok (.aload_n 0, 1) := by decide +kernel
theorem dX5_lend_6 : decode cX5_lend 6 = .ok (.iload_n 1, 1) := by decide +kernel
theorem dX5_lend_7 : decode cX5_lend 7 = .ok (.iload_n 2, 1) := by decide +kernel
theorem dX5_lend_8 : decode cX5_lend 8 = .ok (.invokevirtual 153, 3) := by decide +kernel
theorem dX5_lend_11 : decode cX5_lend 11 = .ok (.invokevirtual 103, 3) := by decide +kernel
theorem dX5_lend_14 : decode cX5_lend 14 = .ok (.ireturn, 1) := by decide +kernel
theorem dX5_bringsBack_0 : decode cX5_bringsBack 0 = .ok (.aload_n 0, 1) := by decide +kernel
theorem dX5_bringsBack_1 : decode cX5_bringsBack 1 = .ok (.iload_n 1, 1) := by decide +kernel
theorem dX5_bringsBack_2 : decode cX5_bringsBack 2 = .ok (.invokevirtual 113, 3) := by decide +kernel
theorem dX5_bringsBack_5 : decode cX5_bringsBack 5 = .ok (.ifCond .eq 10, 3) := by decide +kernel
theorem dX5_bringsBack_8 : decode cX5_bringsBack 8 = .ok (.iload_n 2, 1) := by decide +kernel
theorem dX5_bringsBack_9 : decode cX5_bringsBack 9 = .ok (.invokestatic 93, 3) := by decide +kernel
theorem dX5_bringsBack_12 : decode cX5_bringsBack 12 = .ok (.ifCond .ne 5, 3) := by decide +kernel
theorem dX5_bringsBack_15 : decode cX5_bringsBack 15 = .ok (.iconst (-1), 1) := by decide +kernel
theorem dX5_bringsBack_16 : decode cX5_bringsBack 16 = .ok (.ireturn, 1) := by decide +kernel
theorem dX5_bringsBack_17 : decode cX5_bringsBack 17 = .ok (.aload_n 0, 1) := by decide +kernel
theorem dX5_bringsBack_18 : decode cX5_bringsBack 18 = .ok (.iload_n 1, 1) := by decide +kernel
theorem dX5_bringsBack_19 : decode cX5_bringsBack 19 = .ok (.iconst 3, 1) := by decide +kernel
theorem dX5_bringsBack_20 : decode cX5_bringsBack 20 = .ok (.invokevirtual 73, 3) := by decide +kernel
theorem dX5_bringsBack_23 : decode cX5_bringsBack 23 = .ok (.istore_n 3, 1) := by decide +kernel
theorem dX5_bringsBack_24 : decode cX5_bringsBack 24 = .ok (.aload_n 0, 1) := by decide +kernel
theorem dX5_bringsBack_25 : decode cX5_bringsBack 25 = .ok (.iload_n 1, 1) := by decide +kernel
theorem dX5_bringsBack_26 : decode cX5_bringsBack 26 = .ok (.iconst 4, 1) := by decide +kernel
theorem dX5_bringsBack_27 : decode cX5_bringsBack 27 = .ok (.invokevirtual 73, 3) := by decide +kernel
theorem dX5_bringsBack_30 : decode cX5_bringsBack 30 = .ok (.istore 4, 2) := by decide +kernel
theorem dX5_bringsBack_32 : decode cX5_bringsBack 32 = .ok (.iload_n 3, 1) := by decide +kernel
theorem dX5_bringsBack_33 : decode cX5_bringsBack 33 = .ok (.iconst 1, 1) := by decide +kernel
theorem dX5_bringsBack_34 : decode cX5_bringsBack 34 = .ok (.if_icmp .eq 16, 3) := by decide +kernel
theorem dX5_bringsBack_37 : decode cX5_bringsBack 37 = .ok (.iload_n 3, 1) := by decide +kernel
theorem dX5_bringsBack_38 : decode cX5_bringsBack 38 = .ok (.iconst 4, 1) := by decide +kernel
theorem dX5_bringsBack_39 : decode cX5_bringsBack 39 = .ok (.if_icmp .eq 11, 3) := by decide +kernel
theorem dX5_bringsBack_42 : decode cX5_bringsBack 42 = .ok (.iload_n 3, 1) := by decide +kernel
theorem dX5_bringsBack_43 : decode cX5_bringsBack 43 = .ok (.iconst 5, 1) := by decide +kernel
theorem dX5_bringsBack_44 : decode cX5_bringsBack 44 = .ok (.if_icmp .eq 6, 3) := by decide +kernel
theorem dX5_bringsBack_47 : decode cX5_bringsBack 47 = .ok (.bipush (-2), 2) := by decide +kernel
theorem dX5_bringsBack_49 : decode cX5_bringsBack 49 = .ok (.ireturn, 1) := by decide +kernel
theorem dX5_bringsBack_50 : decode cX5_bringsBack 50 = .ok (.iload_n 3, 1) := by decide +kernel
theorem dX5_bringsBack_51 : decode cX5_bringsBack 51 = .ok (.iconst 1, 1) := by decide +kernel
theorem dX5_bringsBack_52 : decode cX5_bringsBack 52 = .ok (.if_icmp .ne 16, 3) := by decide +kernel
theorem dX5_bringsBack_55 : decode cX5_bringsBack 55 = .ok (.aload_n 0, 1) := by decide +kernel
theorem dX5_bringsBack_56 : decode cX5_bringsBack 56 = .ok (.iconst 0, 1) := by decide +kernel
theorem dX5_bringsBack_57 : decode cX5_bringsBack 57 = .ok (.iload 4, 2) := by decide +kernel
theorem dX5_bringsBack_59 : decode cX5_bringsBack 59 = .ok (.aload_n 0, 1) := by decide +kernel
theorem dX5_bringsBack_60 : decode cX5_bringsBack 60 = .ok (.iload_n 1, 1) := by decide +kernel
theorem dX5_bringsBack_61 : decode cX5_bringsBack 61 = .ok (.invokevirtual 123, 3) := by decide +kernel
theorem dX5_bringsBack_64 : decode cX5_bringsBack 64 = .ok (.iload_n 1, 1) := by decide +kernel
theorem dX5_bringsBack_65 : decode cX5_bringsBack 65 = .ok (.invokevirtual 126, 3) := by decide +kernel
theorem dX5_bringsBack_68 : decode cX5_bringsBack 68 = .ok (.iload_n 3, 1) := by decide +kernel
theorem dX5_bringsBack_69 : decode cX5_bringsBack 69 = .ok (.iconst 4, 1) := by decide +kernel
theorem dX5_bringsBack_70 : decode cX5_bringsBack 70 = .ok (.if_icmp .ne 22, 3) := by decide +kernel
theorem dX5_bringsBack_73 : decode cX5_bringsBack 73 = .ok (.aload_n 0, 1) := by decide +kernel
theorem dX5_bringsBack_74 : decode cX5_bringsBack 74 = .ok (.getfield 11, 3) := by decide +kernel
theorem dX5_bringsBack_77 : decode cX5_bringsBack 77 = .ok (.sipush 253, 3) := by decide +kernel
theorem dX5_bringsBack_80 : decode cX5_bringsBack 80 = .ok (.iconst 4, 1) := by decide +kernel
theorem dX5_bringsBack_81 : decode cX5_bringsBack 81 = .ok (.iload 4, 2) := by decide +kernel
theorem dX5_bringsBack_83 : decode cX5_bringsBack 83 = .ok (.imul, 1) := by decide +kernel
theorem dX5_bringsBack_84 : decode cX5_bringsBack 84 = .ok (.iadd, 1) := by decide +kernel
theorem dX5_bringsBack_85 : decode cX5_bringsBack 85 = .ok (.iconst 1, 1) := by decide +kernel
theorem dX5_bringsBack_86 : decode cX5_bringsBack 86 = .ok (.iadd, 1) := by decide +kernel
theorem dX5_bringsBack_87 : decode cX5_bringsBack 87 = .ok (.dup2, 1) := by decide +kernel
theorem dX5_bringsBack_88 : decode cX5_bringsBack 88 = .ok (.iaload, 1) := by decide +kernel
theorem dX5_bringsBack_89 : decode cX5_bringsBack 89 = .ok (.iconst 1, 1) := by decide +kernel
theorem dX5_bringsBack_90 : decode cX5_bringsBack 90 = .ok (.isub, 1) := by decide +kernel
theorem dX5_bringsBack_91 : decode cX5_bringsBack 91 = .ok (.iastore, 1) := by decide +kernel
theorem dX5_bringsBack_92 : decode cX5_bringsBack 92 = .ok (.iload_n 3, 1) := by decide +kernel
theorem dX5_bringsBack_93 : decode cX5_bringsBack 93 = .ok (.iconst 5, 1) := by decide +kernel
theorem dX5_bringsBack_94 : decode cX5_bringsBack 94 = .ok (.if_icmp .ne 34, 3) := by decide +kernel
theorem dX5_bringsBack_97 : decode cX5_bringsBack 97 = .ok (.aload_n 0, 1) := by decide +kernel
theorem dX5_bringsBack_98 : decode cX5_bringsBack 98 = .ok (.iconst 2, 1) := by decide +kernel
theorem dX5_bringsBack_99 : decode cX5_bringsBack 99 = .ok (.iload 4, 2) := by decide +kernel
theorem dX5_bringsBack_101 : decode cX5_bringsBack 101 = .ok (.aload_n 0, 1) := by decide +kernel
theorem dX5_bringsBack_102 : decode cX5_bringsBack 102 = .ok (.iload_n 1, 1) := by decide +kernel
theorem dX5_bringsBack_103 : decode cX5_bringsBack 103 = .ok (.bipush 10, 2) := by decide +kernel
theorem dX5_bringsBack_105 : decode cX5_bringsBack 105 = .ok (.invokevirtual 73, 3) := by decide +kernel
theorem dX5_bringsBack_108 : decode cX5_bringsBack 108 = .ok (.ineg, 1) := by decide +kernel
theorem dX5_bringsBack_109 : decode cX5_bringsBack 109 = .ok (.iload_n 1, 1) := by decide +kernel
theorem dX5_bringsBack_110 : decode cX5_bringsBack 110 = .ok (.invokevirtual 126, 3) := by decide +kernel
theorem dX5_bringsBack_113 : decode cX5_bringsBack 113 = .ok (.aload_n 0, 1) := by decide +kernel
theorem dX5_bringsBack_114 : decode cX5_bringsBack 114 = .ok (.iconst 0, 1) := by decide +kernel
theorem dX5_bringsBack_115 : decode cX5_bringsBack 115 = .ok (.iload 4, 2) := by decide +kernel
theorem dX5_bringsBack_117 : decode cX5_bringsBack 117 = .ok (.aload_n 0, 1) := by decide +kernel
theorem dX5_bringsBack_118 : decode cX5_bringsBack 118 = .ok (.iload_n 1, 1) := by decide +kernel
theorem dX5_bringsBack_119 : decode cX5_bringsBack 119 = .ok (.bipush 9, 2) := by decide +kernel
theorem dX5_bringsBack_121 : decode cX5_bringsBack 121 = .ok (.invokevirtual 73, 3) := by decide +kernel
theorem dX5_bringsBack_124 : decode cX5_bringsBack 124 = .ok (.iload_n 1, 1) := by decide +kernel
theorem dX5_bringsBack_125 : decode cX5_bringsBack 125 = .ok (.invokevirtual 126, 3) := by decide +kernel
theorem dX5_bringsBack_128 : decode cX5_bringsBack 128 = .ok (.aload_n 0, 1) := by decide +kernel
theorem dX5_bringsBack_129 : decode cX5_bringsBack 129 = .ok (.iload_n 1, 1) := by decide +kernel
theorem dX5_bringsBack_130 : decode cX5_bringsBack 130 = .ok (.iload_n 2, 1) := by decide +kernel
theorem dX5_bringsBack_131 : decode cX5_bringsBack 131 = .ok (.invokevirtual 99, 3) := by decide +kernel
theorem dX5_bringsBack_134 : decode cX5_bringsBack 134 = .ok (.aload_n 0, 1) := by decide +kernel
theorem dX5_bringsBack_135 : decode cX5_bringsBack 135 = .ok (.iload_n 1, 1) := by decide +kernel
theorem dX5_bringsBack_136 : decode cX5_bringsBack 136 = .ok (.iconst 3, 1) := by decide +kernel
theorem dX5_bringsBack_137 : decode cX5_bringsBack 137 = .ok (.invokevirtual 73, 3) := by decide +kernel
theorem dX5_bringsBack_140 : decode cX5_bringsBack 140 = .ok (.ireturn, 1) := by decide +kernel
theorem dX5_bringBack_0 : decode cX5_bringBack 0 = .ok (.aload_n 0, 1) := by decide +kernel
theorem dX5_bringBack_1 : decode cX5_bringBack 1 = .ok (.invokevirtual 96, 3) := by decide +kernel
theorem dX5_bringBack_4 : decode cX5_bringBack 4 = .ok (.aload_n 0, 1) := by decide +kernel
theorem dX5_bringBack_5 : decode cX5_bringBack 5 = .ok (.aload_n 0, 1) := by decide +kernel
theorem dX5_bringBack_6 : decode cX5_bringBack 6 = .ok (.iload_n 1, 1) := by decide +kernel
theorem dX5_bringBack_7 : decode cX5_bringBack 7 = .ok (.iload_n 2, 1) := by decide +kernel
theorem dX5_bringBack_8 : decode cX5_bringBack 8 = .ok (.invokevirtual 156, 3) := by decide +kernel
theorem dX5_bringBack_11 : decode cX5_bringBack 11 = .ok (.invokevirtual 103, 3) := by decide +kernel
theorem dX5_bringBack_14 : decode cX5_bringBack 14 = .ok (.ireturn, 1) := by decide +kernel
theorem dX5_reasonToRenew_0 : decode cX5_reasonToRenew 0 = .ok (.aload_n 0, 1) := by decide +kernel
theorem dX5_reasonToRenew_1 : decode cX5_reasonToRenew 1 = .ok (.iload_n 1, 1) := by decide +kernel
theorem dX5_reasonToRenew_2 : decode cX5_reasonToRenew 2 = .ok (.iconst 3, 1) := by decide +kernel
theorem dX5_reasonToRenew_3 : decode cX5_reasonToRenew 3 = .ok (.invokevirtual 73, 3) := by decide +kernel
theorem dX5_reasonToRenew_6 : decode cX5_reasonToRenew 6 = .ok (.iconst 1, 1) := by decide +kernel
theorem dX5_reasonToRenew_7 : decode cX5_reasonToRenew 7 = .ok (.if_icmp .eq 5, 3) := by decide +kernel
theorem dX5_reasonToRenew_10 : decode cX5_reasonToRenew 10 = .ok (.iconst 1, 1) := by decide +kernel
theorem dX5_reasonToRenew_11 : decode cX5_reasonToRenew 11 = .ok (.ireturn, 1) := by decide +kernel
theorem dX5_reasonToRenew_12 : decode cX5_reasonToRenew 12 = .ok (.aload_n 0, 1) := by decide +kernel
theorem dX5_reasonToRenew_13 : decode cX5_reasonToRenew 13 = .ok (.iload_n 1, 1) := by decide +kernel
theorem dX5_reasonToRenew_14 : decode cX5_reasonToRenew 14 = .ok (.bipush 7, 2) := by decide +kernel
theorem dX5_reasonToRenew_16 : decode cX5_reasonToRenew 16 = .ok (.invokevirtual 73, 3) := by decide +kernel
theorem dX5_reasonToRenew_19 : decode cX5_reasonToRenew 19 = .ok (.iconst 2, 1) := by decide +kernel
theorem dX5_reasonToRenew_20 : decode cX5_reasonToRenew 20 = .ok (.if_icmp .ne 5, 3) := by decide +kernel
theorem dX5_reasonToRenew_23 : decode cX5_reasonToRenew 23 = .ok (.iconst 2, 1) := by decide +kernel
theorem dX5_reasonToRenew_24 : decode cX5_reasonToRenew 24 = .ok (.ireturn, 1) := by decide +kernel
theorem dX5_reasonToRenew_25 : decode cX5_reasonToRenew 25 = .ok (.aload_n 0, 1) := by decide +kernel
theorem dX5_reasonToRenew_26 : decode cX5_reasonToRenew 26 = .ok (.iload_n 1, 1) := by decide +kernel
theorem dX5_reasonToRenew_27 : decode cX5_reasonToRenew 27 = .ok (.bipush 8, 2) := by decide +kernel
theorem dX5_reasonToRenew_29 : decode cX5_reasonToRenew 29 = .ok (.invokevirtual 73, 3) := by decide +kernel
theorem dX5_reasonToRenew_32 : decode cX5_reasonToRenew 32 = .ok (.iconst 1, 1) := by decide +kernel
theorem dX5_reasonToRenew_33 : decode cX5_reasonToRenew 33 = .ok (.if_icmp .eq 16, 3) := by decide +kernel
theorem dX5_reasonToRenew_36 : decode cX5_reasonToRenew 36 = .ok (.aload_n 0, 1) := by decide +kernel
theorem dX5_reasonToRenew_37 : decode cX5_reasonToRenew 37 = .ok (.aload_n 0, 1) := by decide +kernel
theorem dX5_reasonToRenew_38 : decode cX5_reasonToRenew 38 = .ok (.iload_n 1, 1) := by decide +kernel
theorem dX5_reasonToRenew_39 : decode cX5_reasonToRenew 39 = .ok (.iconst 0, 1) := by decide +kernel
theorem dX5_reasonToRenew_40 : decode cX5_reasonToRenew 40 = .ok (.invokevirtual 73, 3) := by decide +kernel
theorem dX5_reasonToRenew_43 : decode cX5_reasonToRenew 43 = .ok (.invokevirtual 159, 3) := by decide +kernel
theorem dX5_reasonToRenew_46 : decode cX5_reasonToRenew 46 = .ok (.ifCond .le 5, 3) := by decide +kernel
theorem dX5_reasonToRenew_49 : decode cX5_reasonToRenew 49 = .ok (.iconst 3, 1) := by decide +kernel
theorem dX5_reasonToRenew_50 : decode cX5_reasonToRenew 50 = .ok (.ireturn, 1) := by decide +kernel
theorem dX5_reasonToRenew_51 : decode cX5_reasonToRenew 51 = .ok (.aload_n 0, 1) := by decide +kernel
theorem dX5_reasonToRenew_52 : decode cX5_reasonToRenew 52 = .ok (.aload_n 0, 1) := by decide +kernel
theorem dX5_reasonToRenew_53 : decode cX5_reasonToRenew 53 = .ok (.iload_n 1, 1) := by decide +kernel
theorem dX5_reasonToRenew_54 : decode cX5_reasonToRenew 54 = .ok (.iconst 4, 1) := by decide +kernel
theorem dX5_reasonToRenew_55 : decode cX5_reasonToRenew 55 = .ok (.invokevirtual 73, 3) := by decide +kernel
theorem dX5_reasonToRenew_58 : decode cX5_reasonToRenew 58 = .ok (.invokevirtual 141, 3) := by decide +kernel
theorem dX5_reasonToRenew_61 : decode cX5_reasonToRenew 61 = .ok (.ifCond .eq 5, 3) := by decide +kernel
theorem dX5_reasonToRenew_64 : decode cX5_reasonToRenew 64 = .ok (.iconst 4, 1) := by decide +kernel
theorem dX5_reasonToRenew_65 : decode cX5_reasonToRenew 65 = .ok (.ireturn, 1) := by decide +kernel
theorem dX5_reasonToRenew_66 : decode cX5_reasonToRenew 66 = .ok (.aload_n 0, 1) := by decide +kernel
theorem dX5_reasonToRenew_67 : decode cX5_reasonToRenew 67 = .ok (.getfield 11, 3) := by decide +kernel
theorem dX5_reasonToRenew_70 : decode cX5_reasonToRenew 70 = .ok (.iconst 0, 1) := by decide +kernel
theorem dX5_reasonToRenew_71 : decode cX5_reasonToRenew 71 = .ok (.iaload, 1) := by decide +kernel
theorem dX5_reasonToRenew_72 : decode cX5_reasonToRenew 72 = .ok (.aload_n 0, 1) := by decide +kernel
theorem dX5_reasonToRenew_73 : decode cX5_reasonToRenew 73 = .ok (.getfield 11, 3) := by decide +kernel
theorem dX5_reasonToRenew_76 : decode cX5_reasonToRenew 76 = .ok (.iconst 5, 1) := by decide +kernel
theorem dX5_reasonToRenew_77 : decode cX5_reasonToRenew 77 = .ok (.iaload, 1) := by decide +kernel
theorem dX5_reasonToRenew_78 : decode cX5_reasonToRenew 78 = .ok (.iadd, 1) := by decide +kernel
theorem dX5_reasonToRenew_79 : decode cX5_reasonToRenew 79 = .ok (.aload_n 0, 1) := by decide +kernel
theorem dX5_reasonToRenew_80 : decode cX5_reasonToRenew 80 = .ok (.iload_n 1, 1) := by decide +kernel
theorem dX5_reasonToRenew_81 : decode cX5_reasonToRenew 81 = .ok (.iconst 5, 1) := by decide +kernel
theorem dX5_reasonToRenew_82 : decode cX5_reasonToRenew 82 = .ok (.invokevirtual 73, 3) := by decide +kernel
theorem dX5_reasonToRenew_85 : decode cX5_reasonToRenew 85 = .ok (.if_icmp .gt 7, 3) := by decide +kernel
theorem dX5_reasonToRenew_88 : decode cX5_reasonToRenew 88 = .ok (.iconst 5, 1) := by decide +kernel
theorem dX5_reasonToRenew_89 : decode cX5_reasonToRenew 89 = .ok (.goto 4, 3) := by decide +kernel
theorem dX5_reasonToRenew_92 : decode cX5_reasonToRenew 92 = .ok (.iconst 0, 1) := by decide +kernel
theorem dX5_reasonToRenew_93 : decode cX5_reasonToRenew 93 = .ok (.ireturn, 1) := by decide +kernel
theorem dX5_renews_0 : decode cX5_renews 0 = .ok (.aload_n 0, 1) := by decide +kernel
theorem dX5_renews_1 : decode cX5_renews 1 = .ok (.iload_n 1, 1) := by decide +kernel
theorem dX5_renews_2 : decode cX5_renews 2 = .ok (.invokevirtual 113, 3) := by decide +kernel
theorem dX5_renews_5 : decode cX5_renews 5 = .ok (.ifCond .ne 5, 3) := by decide +kernel
theorem dX5_renews_8 : decode cX5_renews 8 = .ok (.iconst (-1), 1) := by decide +kernel
theorem dX5_renews_9 : decode cX5_renews 9 = .ok (.ireturn, 1) := by decide +kernel
theorem dX5_renews_10 : decode cX5_renews 10 = .ok (.aload_n 0, 1) := by decide +kernel
theorem dX5_renews_11 : decode cX5_renews 11 = .ok (.iload_n 1, 1) := by decide +kernel
theorem dX5_renews_12 : decode cX5_renews 12 = .ok (.invokevirtual 162, 3) := by decide +kernel
theorem dX5_renews_15 : decode cX5_renews 15 = .ok (.istore_n 2, 1) := by decide +kernel
theorem dX5_renews_16 : decode cX5_renews 16 = .ok (.iload_n 2, 1) := by decide +kernel
theorem dX5_renews_17 : decode cX5_renews 17 = .ok (.ifCond .le 8, 3) := by decide +kernel
theorem dX5_renews_20 : decode cX5_renews 20 = .ok (.bipush (-100), 2) := by decide +kernel
theorem dX5_renews_22 : decode cX5_renews 22 = .ok (.iload_n 2, 1) := by decide +kernel
theorem dX5_renews_23 : decode cX5_renews 23 = .ok (.isub, 1) := by decide +kernel
theorem dX5_renews_24 : decode cX5_renews 24 = .ok (.ireturn, 1) := by decide +kernel
theorem dX5_renews_25 : decode cX5_renews 25 = .ok (.aload_n 0, 1) := by decide +kernel
theorem dX5_renews_26 : decode cX5_renews 26 = .ok (.iload_n 1, 1) := by decide +kernel
theorem dX5_renews_27 : decode cX5_renews 27 = .ok (.iconst 5, 1) := by decide +kernel
theorem dX5_renews_28 : decode cX5_renews 28 = .ok (.aload_n 0, 1) := by decide +kernel
theorem dX5_renews_29 : decode cX5_renews 29 = .ok (.getfield 11, 3) := by decide +kernel
theorem dX5_renews_32 : decode cX5_renews 32 = .ok (.iconst 0, 1) := by decide +kernel
theorem dX5_renews_33 : decode cX5_renews 33 = .ok (.iaload, 1) := by decide +kernel
theorem dX5_renews_34 : decode cX5_renews 34 = .ok (.aload_n 0, 1) := by decide +kernel
theorem dX5_renews_35 : decode cX5_renews 35 = .ok (.getfield 11, 3) := by decide +kernel
theorem dX5_renews_38 : decode cX5_renews 38 = .ok (.iconst 5, 1) := by decide +kernel
theorem dX5_renews_39 : decode cX5_renews 39 = .ok (.iaload, 1) := by decide +kernel
theorem dX5_renews_40 : decode cX5_renews 40 = .ok (.iadd, 1) := by decide +kernel
theorem dX5_renews_41 : decode cX5_renews 41 = .ok (.invokevirtual 55, 3) := by decide +kernel
theorem dX5_renews_44 : decode cX5_renews 44 = .ok (.aload_n 0, 1) := by decide +kernel
theorem dX5_renews_45 : decode cX5_renews 45 = .ok (.iload_n 1, 1) := by decide +kernel
theorem dX5_renews_46 : decode cX5_renews 46 = .ok (.bipush 7, 2) := by decide +kernel
theorem dX5_renews_48 : decode cX5_renews 48 = .ok (.aload_n 0, 1) := by decide +kernel
theorem dX5_renews_49 : decode cX5_renews 49 = .ok (.iload_n 1, 1) := by decide +kernel
theorem dX5_renews_50 : decode cX5_renews 50 = .ok (.bipush 7, 2) := by decide +kernel
theorem dX5_renews_52 : decode cX5_renews 52 = .ok (.invokevirtual 73, 3) := by decide +kernel
theorem dX5_renews_55 : decode cX5_renews 55 = .ok (.iconst 1, 1) := by decide +kernel
theorem dX5_renews_56 : decode cX5_renews 56 = .ok (.iadd, 1) := by decide +kernel
theorem dX5_renews_57 : decode cX5_renews 57 = .ok (.invokevirtual 55, 3) := by decide +kernel
theorem dX5_renews_60 : decode cX5_renews 60 = .ok (.aload_n 0, 1) := by decide +kernel
theorem dX5_renews_61 : decode cX5_renews 61 = .ok (.iload_n 1, 1) := by decide +kernel
theorem dX5_renews_62 : decode cX5_renews 62 = .ok (.iconst 5, 1) := by decide +kernel
theorem dX5_renews_63 : decode cX5_renews 63 = .ok (.invokevirtual 73, 3) := by decide +kernel
theorem dX5_renews_66 : decode cX5_renews 66 = .ok (.ireturn, 1) := by decide +kernel
theorem dX5_renew_0 : decode cX5_renew 0 = .ok (.aload_n 0, 1) := by decide +kernel
theorem dX5_renew_1 : decode cX5_renew 1 = .ok (.invokevirtual 96, 3) := by decide +kernel
theorem dX5_renew_4 : decode cX5_renew 4 = .ok (.aload_n 0, 1) := by decide +kernel
theorem dX5_renew_5 : decode cX5_renew 5 = .ok (.aload_n 0, 1) := by decide +kernel
theorem dX5_renew_6 : decode cX5_renew 6 = .ok (.iload_n 1, 1) := by decide +kernel
theorem dX5_renew_7 : decode cX5_renew 7 = .ok (.invokevirtual 165, 3) := by decide +kernel
theorem dX5_renew_10 : decode cX5_renew 10 = .ok (.invokevirtual 103, 3) := by decide +kernel
theorem dX5_renew_13 : decode cX5_renew 13 = .ok (.ireturn, 1) := by decide +kernel
theorem dX5_reasonToClaim_0 : decode cX5_reasonToClaim 0 = .ok (.aload_n 0, 1) := by decide +kernel
theorem dX5_reasonToClaim_1 : decode cX5_reasonToClaim 1 = .ok (.iload_n 1, 1) := by decide +kernel
theorem dX5_reasonToClaim_2 : decode cX5_reasonToClaim 2 = .ok (.iconst 3, 1) := by decide +kernel
theorem dX5_reasonToClaim_3 : decode cX5_reasonToClaim 3 = .ok (.invokevirtual 73, 3) := by decide +kernel
theorem dX5_reasonToClaim_6 : decode cX5_reasonToClaim 6 = .ok (.iconst 1, 1) := by decide +kernel
theorem dX5_reasonToClaim_7 : decode cX5_reasonToClaim 7 = .ok (.if_icmp .eq 7, 3) := by decide +kernel
theorem dX5_reasonToClaim_10 : decode cX5_reasonToClaim 10 = .ok (.iconst 1, 1) := by decide +kernel
theorem dX5_reasonToClaim_11 : decode cX5_reasonToClaim 11 = .ok (.goto 31, 3) := by decide +kernel
theorem dX5_reasonToClaim_14 : decode cX5_reasonToClaim 14 = .ok (.aload_n 0, 1) := by decide +kernel
theorem dX5_reasonToClaim_15 : decode cX5_reasonToClaim 15 = .ok (.getfield 11, 3) := by decide +kernel
theorem dX5_reasonToClaim_18 : decode cX5_reasonToClaim 18 = .ok (.sipush 253, 3) := by decide +kernel
theorem dX5_reasonToClaim_21 : decode cX5_reasonToClaim 21 = .ok (.iconst 4, 1) := by decide +kernel
theorem dX5_reasonToClaim_22 : decode cX5_reasonToClaim 22 = .ok (.aload_n 0, 1) := by decide +kernel
theorem dX5_reasonToClaim_23 : decode cX5_reasonToClaim 23 = .ok (.iload_n 1, 1) := by decide +kernel
theorem dX5_reasonToClaim_24 : decode cX5_reasonToClaim 24 = .ok (.iconst 4, 1) := by decide +kernel
theorem dX5_reasonToClaim_25 : decode cX5_reasonToClaim 25 = .ok (.invokevirtual 73, 3) := by decide +kernel
theorem dX5_reasonToClaim_28 : decode cX5_reasonToClaim 28 = .ok (.imul, 1) := by decide +kernel
theorem dX5_reasonToClaim_29 : decode cX5_reasonToClaim 29 = .ok (.iadd, 1) := by decide +kernel
theorem dX5_reasonToClaim_30 : decode cX5_reasonToClaim 30 = .ok (.iconst 1, 1) := by decide +kernel
theorem dX5_reasonToClaim_31 : decode cX5_reasonToClaim 31 = .ok (.iadd, 1) := by decide +kernel
theorem dX5_reasonToClaim_32 : decode cX5_reasonToClaim 32 = .ok (.iaload, 1) := by decide +kernel
theorem dX5_reasonToClaim_33 : decode cX5_reasonToClaim 33 = .ok (.iconst 2, 1) := by decide +kernel
theorem dX5_reasonToClaim_34 : decode cX5_reasonToClaim 34 = .ok (.if_icmp .lt 7, 3) := by decide +kernel
theorem dX5_reasonToClaim_37 : decode cX5_reasonToClaim 37 = .ok (.iconst 2, 1) := by decide +kernel
theorem dX5_reasonToClaim_38 : decode cX5_reasonToClaim 38 = .ok (.goto 4, 3) := by decide +kernel
theorem dX5_reasonToClaim_41 : decode cX5_reasonToClaim 41 = .ok (.iconst 0, 1) := by decide +kernel
theorem dX5_reasonToClaim_42 : decode cX5_reasonToClaim 42 = .ok (.ireturn, 1) := by decide +kernel
theorem dX5_claim_0 : decode cX5_claim 0 = .ok (.aload_n 0, 1) := by decide +kernel
theorem dX5_claim_1 : decode cX5_claim 1 = .ok (.iload_n 1, 1) := by decide +kernel
theorem dX5_claim_2 : decode cX5_claim 2 = .ok (.invokevirtual 113, 3) := by decide +kernel
theorem dX5_claim_5 : decode cX5_claim 5 = .ok (.ifCond .ne 5, 3) := by decide +kernel
theorem dX5_claim_8 : decode cX5_claim 8 = .ok (.iconst (-1), 1) := by decide +kernel
theorem dX5_claim_9 : decode cX5_claim 9 = .ok (.ireturn, 1) := by decide +kernel
theorem dX5_claim_10 : decode cX5_claim 10 = .ok (.aload_n 0, 1) := by decide +kernel
theorem dX5_claim_11 : decode cX5_claim 11 = .ok (.iload_n 1, 1) := by decide +kernel
theorem dX5_claim_12 : decode cX5_claim 12 = .ok (.invokevirtual 168, 3) := by decide +kernel
theorem dX5_claim_15 : decode cX5_claim 15 = .ok (.istore_n 2, 1) := by decide +kernel
theorem dX5_claim_16 : decode cX5_claim 16 = .ok (.iload_n 2, 1) := by decide +kernel
theorem dX5_claim_17 : decode cX5_claim 17 = .ok (.ifCond .le 8, 3) := by decide +kernel
theorem dX5_claim_20 : decode cX5_claim 20 = .ok (.bipush (-100), 2) := by decide +kernel
theorem dX5_claim_22 : decode cX5_claim 22 = .ok (.iload_n 2, 1) := by decide +kernel
theorem dX5_claim_23 : decode cX5_claim 23 = .ok (.isub, 1) := by decide +kernel
theorem dX5_claim_24 : decode cX5_claim 24 = .ok (.ireturn, 1) := by decide +kernel
theorem dX5_claim_25 : decode cX5_claim 25 = .ok (.aload_n 0, 1) := by decide +kernel
theorem dX5_claim_26 : decode cX5_claim 26 = .ok (.invokevirtual 96, 3) := by decide +kernel
theorem dX5_claim_29 : decode cX5_claim 29 = .ok (.aload_n 0, 1) := by decide +kernel
theorem dX5_claim_30 : decode cX5_claim 30 = .ok (.iload_n 1, 1) := by decide +kernel
theorem dX5_claim_31 : decode cX5_claim 31 = .ok (.bipush 9, 2) := by decide +kernel
theorem dX5_claim_33 : decode cX5_claim 33 = .ok (.aload_n 0, 1) := by decide +kernel
theorem dX5_claim_34 : decode cX5_claim 34 = .ok (.iload_n 1, 1) := by decide +kernel
theorem dX5_claim_35 : decode cX5_claim 35 = .ok (.invokevirtual 123, 3) := by decide +kernel
theorem dX5_claim_38 : decode cX5_claim 38 = .ok (.invokevirtual 55, 3) := by decide +kernel
theorem dX5_claim_41 : decode cX5_claim 41 = .ok (.aload_n 0, 1) := by decide +kernel
theorem dX5_claim_42 : decode cX5_claim 42 = .ok (.iload_n 1, 1) := by decide +kernel
theorem dX5_claim_43 : decode cX5_claim 43 = .ok (.iconst 4, 1) := by decide +kernel
theorem dX5_claim_44 : decode cX5_claim 44 = .ok (.aload_n 0, 1) := by decide +kernel
theorem dX5_claim_45 : decode cX5_claim 45 = .ok (.iload_n 1, 1) := by decide +kernel
theorem dX5_claim_46 : decode cX5_claim 46 = .ok (.iconst 4, 1) := by decide +kernel
theorem dX5_claim_47 : decode cX5_claim 47 = .ok (.invokevirtual 73, 3) := by decide +kernel
theorem dX5_claim_50 : decode cX5_claim 50 = .ok (.aload_n 0, 1) := by decide +kernel
theorem dX5_claim_51 : decode cX5_claim 51 = .ok (.getfield 11, 3) := by decide +kernel
theorem dX5_claim_54 : decode cX5_claim 54 = .ok (.iconst 0, 1) := by decide +kernel
theorem dX5_claim_55 : decode cX5_claim 55 = .ok (.iaload, 1) := by decide +kernel
theorem dX5_claim_56 : decode cX5_claim 56 = .ok (.invokevirtual 63, 3) := by decide +kernel
theorem dX5_claim_59 : decode cX5_claim 59 = .ok (.aload_n 0, 1) := by decide +kernel
theorem dX5_claim_60 : decode cX5_claim 60 = .ok (.getfield 11, 3) := by decide +kernel
theorem dX5_claim_63 : decode cX5_claim 63 = .ok (.sipush 253, 3) := by decide +kernel
theorem dX5_claim_66 : decode cX5_claim 66 = .ok (.iconst 4, 1) := by decide +kernel
theorem dX5_claim_67 : decode cX5_claim 67 = .ok (.aload_n 0, 1) := by decide +kernel
theorem dX5_claim_68 : decode cX5_claim 68 = .ok (.iload_n 1, 1) := by decide +kernel
theorem dX5_claim_69 : decode cX5_claim 69 = .ok (.iconst 4, 1) := by decide +kernel
theorem dX5_claim_70 : decode cX5_claim 70 = .ok (.invokevirtual 73, 3) := by decide +kernel
theorem dX5_claim_73 : decode cX5_claim 73 = .ok (.imul, 1) := by decide +kernel
theorem dX5_claim_74 : decode cX5_claim 74 = .ok (.iadd, 1) := by decide +kernel
theorem dX5_claim_75 : decode cX5_claim 75 = .ok (.iconst 1, 1) := by decide +kernel
theorem dX5_claim_76 : decode cX5_claim 76 = .ok (.iadd, 1) := by decide +kernel
theorem dX5_claim_77 : decode cX5_claim 77 = .ok (.dup2, 1) := by decide +kernel
theorem dX5_claim_78 : decode cX5_claim 78 = .ok (.iaload, 1) := by decide +kernel
theorem dX5_claim_79 : decode cX5_claim 79 = .ok (.iconst 1, 1) := by decide +kernel
theorem dX5_claim_80 : decode cX5_claim 80 = .ok (.iadd, 1) := by decide +kernel
theorem dX5_claim_81 : decode cX5_claim 81 = .ok (.iastore, 1) := by decide +kernel
theorem dX5_claim_82 : decode cX5_claim 82 = .ok (.aload_n 0, 1) := by decide +kernel
theorem dX5_claim_83 : decode cX5_claim 83 = .ok (.aload_n 0, 1) := by decide +kernel
theorem dX5_claim_84 : decode cX5_claim 84 = .ok (.iload_n 1, 1) := by decide +kernel
theorem dX5_claim_85 : decode cX5_claim 85 = .ok (.bipush 9, 2) := by decide +kernel
theorem dX5_claim_87 : decode cX5_claim 87 = .ok (.invokevirtual 73, 3) := by decide +kernel
theorem dX5_claim_90 : decode cX5_claim 90 = .ok (.invokevirtual 103, 3) := by decide +kernel
theorem dX5_claim_93 : decode cX5_claim 93 = .ok (.ireturn, 1) := by decide +kernel
theorem dX5_reasonToLose_0 : decode cX5_reasonToLose 0 = .ok (.aload_n 0, 1) := by decide +kernel
theorem dX5_reasonToLose_1 : decode cX5_reasonToLose 1 = .ok (.iload_n 1, 1) := by decide +kernel
theorem dX5_reasonToLose_2 : decode cX5_reasonToLose 2 = .ok (.iconst 3, 1) := by decide +kernel
theorem dX5_reasonToLose_3 : decode cX5_reasonToLose 3 = .ok (.invokevirtual 73, 3) := by decide +kernel
theorem dX5_reasonToLose_6 : decode cX5_reasonToLose 6 = .ok (.iconst 1, 1) := by decide +kernel
theorem dX5_reasonToLose_7 : decode cX5_reasonToLose 7 = .ok (.if_icmp .eq 13, 3) := by decide +kernel
theorem dX5_reasonToLose_10 : decode cX5_reasonToLose 10 = .ok (.aload_n 0, 1) := by decide +kernel
theorem dX5_reasonToLose_11 : decode cX5_reasonToLose 11 = .ok (.iload_n 1, 1) := by decide +kernel
theorem dX5_reasonToLose_12 : decode cX5_reasonToLose 12 = .ok (.iconst 3, 1) := by decide +kernel
theorem dX5_reasonToLose_13 : decode cX5_reasonToLose 13 = .ok (.invokevirtual 73, 3) := by decide +kernel
theorem dX5_reasonToLose_16 : decode cX5_reasonToLose 16 = .ok (.iconst 4, 1) := by decide +kernel
theorem dX5_reasonToLose_17 : decode cX5_reasonToLose 17 = .ok (.if_icmp .ne 7, 3) := by decide +kernel
theorem dX5_reasonToLose_20 : decode cX5_reasonToLose 20 = .ok (.iconst 0, 1) := by decide +kernel
theorem dX5_reasonToLose_21 : decode cX5_reasonToLose 21 = .ok (.goto 4, 3) := by decide +kernel
theorem dX5_reasonToLose_24 : decode cX5_reasonToLose 24 = .ok (.iconst 1, 1) := by decide +kernel
theorem dX5_reasonToLose_25 : decode cX5_reasonToLose 25 = .ok (.ireturn, 1) := by decide +kernel
theorem dX5_lose_0 : decode cX5_lose 0 = .ok (.aload_n 0, 1) := by decide +kernel
theorem dX5_lose_1 : decode cX5_lose 1 = .ok (.iload_n 1, 1) := by decide +kernel
theorem dX5_lose_2 : decode cX5_lose 2 = .ok (.invokevirtual 113, 3) := by decide +kernel
theorem dX5_lose_5 : decode cX5_lose 5 = .ok (.ifCond .ne 5, 3) := by decide +kernel
theorem dX5_lose_8 : decode cX5_lose 8 = .ok (.iconst (-1), 1) := by decide +kernel
theorem dX5_lose_9 : decode cX5_lose 9 = .ok (.ireturn, 1) := by decide +kernel
theorem dX5_lose_10 : decode cX5_lose 10 = .ok (.aload_n 0, 1) := by decide +kernel
theorem dX5_lose_11 : decode cX5_lose 11 = .ok (.iload_n 1, 1) := by decide +kernel
theorem dX5_lose_12 : decode cX5_lose 12 = .ok (.invokevirtual 171, 3) := by decide +kernel
theorem dX5_lose_15 : decode cX5_lose 15 = .ok (.istore_n 2, 1) := by decide +kernel
theorem dX5_lose_16 : decode cX5_lose 16 = .ok (.iload_n 2, 1) := by decide +kernel
theorem dX5_lose_17 : decode cX5_lose 17 = .ok (.ifCond .le 8, 3) := by decide +kernel
theorem dX5_lose_20 : decode cX5_lose 20 = .ok (.bipush (-100), 2) := by decide +kernel
theorem dX5_lose_22 : decode cX5_lose 22 = .ok (.iload_n 2, 1) := by decide +kernel
theorem dX5_lose_23 : decode cX5_lose 23 = .ok (.isub, 1) := by decide +kernel
theorem dX5_lose_24 : decode cX5_lose 24 = .ok (.ireturn, 1) := by decide +kernel
theorem dX5_lose_25 : decode cX5_lose 25 = .ok (.aload_n 0, 1) := by decide +kernel
theorem dX5_lose_26 : decode cX5_lose 26 = .ok (.invokevirtual 96, 3) := by decide +kernel
theorem dX5_lose_29 : decode cX5_lose 29 = .ok (.aload_n 0, 1) := by decide +kernel
theorem dX5_lose_30 : decode cX5_lose 30 = .ok (.iload_n 1, 1) := by decide +kernel
theorem dX5_lose_31 : decode cX5_lose 31 = .ok (.invokevirtual 135, 3) := by decide +kernel
theorem dX5_lose_34 : decode cX5_lose 34 = .ok (.aload_n 0, 1) := by decide +kernel
theorem dX5_lose_35 : decode cX5_lose 35 = .ok (.getfield 11, 3) := by decide +kernel
theorem dX5_lose_38 : decode cX5_lose 38 = .ok (.sipush 253, 3) := by decide +kernel
theorem dX5_lose_41 : decode cX5_lose 41 = .ok (.iconst 4, 1) := by decide +kernel
theorem dX5_lose_42 : decode cX5_lose 42 = .ok (.aload_n 0, 1) := by decide +kernel
theorem dX5_lose_43 : decode cX5_lose 43 = .ok (.iload_n 1, 1) := by decide +kernel
theorem dX5_lose_44 : decode cX5_lose 44 = .ok (.iconst 4, 1) := by decide +kernel
theorem dX5_lose_45 : decode cX5_lose 45 = .ok (.invokevirtual 73, 3) := by decide +kernel
theorem dX5_lose_48 : decode cX5_lose 48 = .ok (.imul, 1) := by decide +kernel
theorem dX5_lose_49 : decode cX5_lose 49 = .ok (.iadd, 1) := by decide +kernel
theorem dX5_lose_50 : decode cX5_lose 50 = .ok (.iaload, 1) := by decide +kernel
theorem dX5_lose_51 : decode cX5_lose 51 = .ok (.istore_n 3, 1) := by decide +kernel
theorem dX5_lose_52 : decode cX5_lose 52 = .ok (.aload_n 0, 1) := by decide +kernel
theorem dX5_lose_53 : decode cX5_lose 53 = .ok (.iconst 0, 1) := by decide +kernel
theorem dX5_lose_54 : decode cX5_lose 54 = .ok (.invokevirtual 103, 3) := by decide +kernel
theorem dX5_lose_57 : decode cX5_lose 57 = .ok (.istore 4, 2) := by decide +kernel
theorem dX5_lose_59 : decode cX5_lose 59 = .ok (.iload_n 3, 1) := by decide +kernel
theorem dX5_lose_60 : decode cX5_lose 60 = .ok (.ireturn, 1) := by decide +kernel
theorem dX5_reasonToHold_0 : decode cX5_reasonToHold 0 = .ok (.aload_n 0, 1) := by decide +kernel
theorem dX5_reasonToHold_1 : decode cX5_reasonToHold 1 = .ok (.iload_n 1, 1) := by decide +kernel
theorem dX5_reasonToHold_2 : decode cX5_reasonToHold 2 = .ok (.invokevirtual 141, 3) := by decide +kernel
theorem dX5_reasonToHold_5 : decode cX5_reasonToHold 5 = .ok (.ifCond .eq 5, 3) := by decide +kernel
theorem dX5_reasonToHold_8 : decode cX5_reasonToHold 8 = .ok (.iconst 1, 1) := by decide +kernel
theorem dX5_reasonToHold_9 : decode cX5_reasonToHold 9 = .ok (.ireturn, 1) := by decide +kernel
theorem dX5_reasonToHold_10 : decode cX5_reasonToHold 10 = .ok (.iconst 0, 1) := by decide +kernel
theorem dX5_reasonToHold_11 : decode cX5_reasonToHold 11 = .ok (.istore_n 3, 1) := by decide +kernel
theorem dX5_reasonToHold_12 : decode cX5_reasonToHold 12 = .ok (.iconst 0, 1) := by decide +kernel
theorem dX5_reasonToHold_13 : decode cX5_reasonToHold 13 = .ok (.istore 4, 2) := by decide +kernel
theorem dX5_reasonToHold_15 : decode cX5_reasonToHold 15 = .ok (.iload 4, 2) := by decide +kernel
theorem dX5_reasonToHold_17 : decode cX5_reasonToHold 17 = .ok (.aload_n 0, 1) := by decide +kernel
theorem dX5_reasonToHold_18 : decode cX5_reasonToHold 18 = .ok (.getfield 11, 3) := by decide +kernel
theorem dX5_reasonToHold_21 : decode cX5_reasonToHold 21 = .ok (.iconst 3, 1) := by decide +kernel
theorem dX5_reasonToHold_22 : decode cX5_reasonToHold 22 = .ok (.iaload, 1) := by decide +kernel
theorem dX5_reasonToHold_23 : decode cX5_reasonToHold 23 = .ok (.if_icmp .ge 28, 3) := by decide +kernel
theorem dX5_reasonToHold_26 : decode cX5_reasonToHold 26 = .ok (.iload_n 3, 1) := by decide +kernel
theorem dX5_reasonToHold_27 : decode cX5_reasonToHold 27 = .ok (.aload_n 0, 1) := by decide +kernel
theorem dX5_reasonToHold_28 : decode cX5_reasonToHold 28 = .ok (.iload 4, 2) := by decide +kernel
theorem dX5_reasonToHold_30 : decode cX5_reasonToHold 30 = .ok (.iconst 1, 1) := by decide +kernel
theorem dX5_reasonToHold_31 : decode cX5_reasonToHold 31 = .ok (.invokevirtual 59, 3) := by decide +kernel
theorem dX5_reasonToHold_34 : decode cX5_reasonToHold 34 = .ok (.iload_n 1, 1) := by decide +kernel
theorem dX5_reasonToHold_35 : decode cX5_reasonToHold 35 = .ok (.if_icmp .ne 7, 3) := by decide +kernel
theorem dX5_reasonToHold_38 : decode cX5_reasonToHold 38 = .ok (.iconst 1, 1) := by decide +kernel
theorem dX5_reasonToHold_39 : decode cX5_reasonToHold 39 = .ok (.goto 4, 3) := by decide +kernel
theorem dX5_reasonToHold_42 : decode cX5_reasonToHold 42 = .ok (.iconst 0, 1) := by decide +kernel
theorem dX5_reasonToHold_43 : decode cX5_reasonToHold 43 = .ok (.iadd, 1) := by decide +kernel
theorem dX5_reasonToHold_44 : decode cX5_reasonToHold 44 = .ok (.istore_n 3, 1) := by decide +kernel
theorem dX5_reasonToHold_45 : decode cX5_reasonToHold 45 = .ok (.iinc 4 1, 3) := by decide +kernel
theorem dX5_reasonToHold_48 : decode cX5_reasonToHold 48 = .ok (.goto (-33), 3) := by decide +kernel
theorem dX5_reasonToHold_51 : decode cX5_reasonToHold 51 = .ok (.iload_n 3, 1) := by decide +kernel
theorem dX5_reasonToHold_52 : decode cX5_reasonToHold 52 = .ok (.iconst 3, 1) := by decide +kernel
theorem dX5_reasonToHold_53 : decode cX5_reasonToHold 53 = .ok (.if_icmp .lt 5, 3) := by decide +kernel
theorem dX5_reasonToHold_56 : decode cX5_reasonToHold 56 = .ok (.iconst 2, 1) := by decide +kernel
theorem dX5_reasonToHold_57 : decode cX5_reasonToHold 57 = .ok (.ireturn, 1) := by decide +kernel
theorem dX5_reasonToHold_58 : decode cX5_reasonToHold 58 = .ok (.aload_n 0, 1) := by decide +kernel
theorem dX5_reasonToHold_59 : decode cX5_reasonToHold 59 = .ok (.iload_n 1, 1) := by decide +kernel
theorem dX5_reasonToHold_60 : decode cX5_reasonToHold 60 = .ok (.iload_n 2, 1) := by decide +kernel
theorem dX5_reasonToHold_61 : decode cX5_reasonToHold 61 = .ok (.invokevirtual 174, 3) := by decide +kernel
theorem dX5_reasonToHold_64 : decode cX5_reasonToHold 64 = .ok (.ifCond .lt 5, 3) := by decide +kernel
theorem dX5_reasonToHold_67 : decode cX5_reasonToHold 67 = .ok (.iconst 3, 1) := by decide +kernel
theorem dX5_reasonToHold_68 : decode cX5_reasonToHold 68 = .ok (.ireturn, 1) := by decide +kernel
theorem dX5_reasonToHold_69 : decode cX5_reasonToHold 69 = .ok (.iconst 0, 1) := by decide +kernel
theorem dX5_reasonToHold_70 : decode cX5_reasonToHold 70 = .ok (.istore 4, 2) := by decide +kernel
theorem dX5_reasonToHold_72 : decode cX5_reasonToHold 72 = .ok (.iload 4, 2) := by decide +kernel
theorem dX5_reasonToHold_74 : decode cX5_reasonToHold 74 = .ok (.aload_n 0, 1) := by decide +kernel
theorem dX5_reasonToHold_75 : decode cX5_reasonToHold 75 = .ok (.getfield 11, 3) := by decide +kernel
theorem dX5_reasonToHold_78 : decode cX5_reasonToHold 78 = .ok (.iconst 1, 1) := by decide +kernel
theorem dX5_reasonToHold_79 : decode cX5_reasonToHold 79 = .ok (.iaload, 1) := by decide +kernel
theorem dX5_reasonToHold_80 : decode cX5_reasonToHold 80 = .ok (.if_icmp .ge 44, 3) := by decide +kernel
theorem dX5_reasonToHold_83 : decode cX5_reasonToHold 83 = .ok (.aload_n 0, 1) := by decide +kernel
theorem dX5_reasonToHold_84 : decode cX5_reasonToHold 84 = .ok (.iload 4, 2) := by decide +kernel
theorem dX5_reasonToHold_86 : decode cX5_reasonToHold 86 = .ok (.iconst 3, 1) := by decide +kernel
theorem dX5_reasonToHold_87 : decode cX5_reasonToHold 87 = .ok (.invokevirtual 73, 3) := by decide +kernel
theorem dX5_reasonToHold_90 : decode cX5_reasonToHold 90 = .ok (.iconst 1, 1) := by decide +kernel
theorem dX5_reasonToHold_91 : decode cX5_reasonToHold 91 = .ok (.if_icmp .ne 27, 3) := by decide +kernel
theorem dX5_reasonToHold_94 : decode cX5_reasonToHold 94 = .ok (.aload_n 0, 1) := by decide +kernel
theorem dX5_reasonToHold_95 : decode cX5_reasonToHold 95 = .ok (.iload 4, 2) := by decide +kernel
theorem dX5_reasonToHold_97 : decode cX5_reasonToHold 97 = .ok (.iconst 4, 1) := by decide +kernel
theorem dX5_reasonToHold_98 : decode cX5_reasonToHold 98 = .ok (.invokevirtual 73, 3) := by decide +kernel
theorem dX5_reasonToHold_101 : decode cX5_reasonToHold 101 = .ok (.iload_n 1, 1) := by decide +kernel
theorem dX5_reasonToHold_102 : decode cX5_reasonToHold 102 = .ok (.if_icmp .ne 16, 3) := by decide +kernel
theorem dX5_reasonToHold_105 : decode cX5_reasonToHold 105 = .ok (.aload_n 0, 1) := by decide +kernel
theorem dX5_reasonToHold_106 : decode cX5_reasonToHold 106 = .ok (.iload 4, 2) := by decide +kernel
theorem dX5_reasonToHold_108 : decode cX5_reasonToHold 108 = .ok (.iconst 0, 1) := by decide +kernel
theorem dX5_reasonToHold_109 : decode cX5_reasonToHold 109 = .ok (.invokevirtual 73, 3) := by decide +kernel
theorem dX5_reasonToHold_112 : decode cX5_reasonToHold 112 = .ok (.iload_n 2, 1) := by decide +kernel
theorem dX5_reasonToHold_113 : decode cX5_reasonToHold 113 = .ok (.if_icmp .ne 5, 3) := by decide +kernel
theorem dX5_reasonToHold_116 : decode cX5_reasonToHold 116 = .ok (.iconst 4, 1) := by decide +kernel
theorem dX5_reasonToHold_117 : decode cX5_reasonToHold 117 = .ok (.ireturn, 1) := by decide +kernel
theorem dX5_reasonToHold_118 : decode cX5_reasonToHold 118 = .ok (.iinc 4 1, 3) := by decide +kernel
theorem dX5_reasonToHold_121 : decode cX5_reasonToHold 121 = .ok (.goto (-49), 3) := by decide +kernel
theorem dX5_reasonToHold_124 : decode cX5_reasonToHold 124 = .ok (.iconst 0, 1) := by decide +kernel
theorem dX5_reasonToHold_125 : decode cX5_reasonToHold 125 = .ok (.ireturn, 1) := by decide +kernel
theorem dX5_nearest_0 : decode cX5_nearest 0 = .ok (.bipush (-2), 2) := by decide +kernel
theorem dX5_nearest_2 : decode cX5_nearest 2 = .ok (.istore_n 3, 1) := by decide +kernel
theorem dX5_nearest_3 : decode cX5_nearest 3 = .ok (.iconst 0, 1) := by decide +kernel
theorem dX5_nearest_4 : decode cX5_nearest 4 = .ok (.istore 4, 2) := by decide +kernel
theorem dX5_nearest_6 : decode cX5_nearest 6 = .ok (.iload 4, 2) := by decide +kernel
theorem dX5_nearest_8 : decode cX5_nearest 8 = .ok (.aload_n 0, 1) := by decide +kernel
theorem dX5_nearest_9 : decode cX5_nearest 9 = .ok (.getfield 11, 3) := by decide +kernel
theorem dX5_nearest_12 : decode cX5_nearest 12 = .ok (.iconst 1, 1) := by decide +kernel
theorem dX5_nearest_13 : decode cX5_nearest 13 = .ok (.iaload, 1) := by decide +kernel
theorem dX5_nearest_14 : decode cX5_nearest 14 = .ok (.if_icmp .ge 66, 3) := by decide +kernel
theorem dX5_nearest_17 : decode cX5_nearest 17 = .ok (.aload_n 0, 1) := by decide +kernel
theorem dX5_nearest_18 : decode cX5_nearest 18 = .ok (.iload 4, 2) := by decide +kernel
theorem dX5_nearest_20 : decode cX5_nearest 20 = .ok (.iconst 0, 1) := by decide +kernel
theorem dX5_nearest_21 : decode cX5_nearest 21 = .ok (.invokevirtual 73, 3) := by decide +kernel
theorem dX5_nearest_24 : decode cX5_nearest 24 = .ok (.iload_n 1, 1) := by decide +kernel
theorem dX5_nearest_25 : decode cX5_nearest 25 = .ok (.if_icmp .ne 49, 3) := by decide +kernel
theorem dX5_nearest_28 : decode cX5_nearest 28 = .ok (.aload_n 0, 1) := by decide +kernel
theorem dX5_nearest_29 : decode cX5_nearest 29 = .ok (.iload 4, 2) := by decide +kernel
theorem dX5_nearest_31 : decode cX5_nearest 31 = .ok (.iconst 3, 1) := by decide +kernel
theorem dX5_nearest_32 : decode cX5_nearest 32 = .ok (.invokevirtual 73, 3) := by decide +kernel
theorem dX5_nearest_35 : decode cX5_nearest 35 = .ok (.ifCond .eq 6, 3) := by decide +kernel
theorem dX5_nearest_38 : decode cX5_nearest 38 = .ok (.goto 36, 3) := by decide +kernel
theorem dX5_nearest_41 : decode cX5_nearest 41 = .ok (.iload_n 3, 1) := by decide +kernel
theorem dX5_nearest_42 : decode cX5_nearest 42 = .ok (.ifCond .lt 29, 3) := by decide +kernel
theorem dX5_nearest_45 : decode cX5_nearest 45 = .ok (.aload_n 0, 1) := by decide +kernel
theorem dX5_nearest_46 : decode cX5_nearest 46 = .ok (.iload 4, 2) := by decide +kernel
theorem dX5_nearest_48 : decode cX5_nearest 48 = .ok (.iconst 4, 1) := by decide +kernel
theorem dX5_nearest_49 : decode cX5_nearest 49 = .ok (.invokevirtual 73, 3) := by decide +kernel
theorem dX5_nearest_52 : decode cX5_nearest 52 = .ok (.iload_n 2, 1) := by decide +kernel
theorem dX5_nearest_53 : decode cX5_nearest 53 = .ok (.isub, 1) := by decide +kernel
theorem dX5_nearest_54 : decode cX5_nearest 54 = .ok (.invokestatic 67, 3) := by decide +kernel
theorem dX5_nearest_57 : decode cX5_nearest 57 = .ok (.aload_n 0, 1) := by decide +kernel
theorem dX5_nearest_58 : decode cX5_nearest 58 = .ok (.iload_n 3, 1) := by decide +kernel
theorem dX5_nearest_59 : decode cX5_nearest 59 = .ok (.iconst 4, 1) := by decide +kernel
theorem dX5_nearest_60 : decode cX5_nearest 60 = .ok (.invokevirtual 73, 3) := by decide +kernel
theorem dX5_nearest_63 : decode cX5_nearest 63 = .ok (.iload_n 2, 1) := by decide +kernel
theorem dX5_nearest_64 : decode cX5_nearest 64 = .ok (.isub, 1) := by decide +kernel
theorem dX5_nearest_65 : decode cX5_nearest 65 = .ok (.invokestatic 67, 3) := by decide +kernel
theorem dX5_nearest_68 : decode cX5_nearest 68 = .ok (.if_icmp .ge 6, 3) := by decide +kernel
theorem dX5_nearest_71 : decode cX5_nearest 71 = .ok (.iload 4, 2) := by decide +kernel
theorem dX5_nearest_73 : decode cX5_nearest 73 = .ok (.istore_n 3, 1) := by decide +kernel
theorem dX5_nearest_74 : decode cX5_nearest 74 = .ok (.iinc 4 1, 3) := by decide +kernel
theorem dX5_nearest_77 : decode cX5_nearest 77 = .ok (.goto (-71), 3) := by decide +kernel
theorem dX5_nearest_80 : decode cX5_nearest 80 = .ok (.iload_n 3, 1) := by decide +kernel
theorem dX5_nearest_81 : decode cX5_nearest 81 = .ok (.ireturn, 1) := by decide +kernel
theorem dX5_recalls_0 : decode cX5_recalls 0 = .ok (.bipush (-2), 2) := by decide +kernel
theorem dX5_recalls_2 : decode cX5_recalls 2 = .ok (.istore_n 2, 1) := by decide +kernel
theorem dX5_recalls_3 : decode cX5_recalls 3 = .ok (.iconst 0, 1) := by decide +kernel
theorem dX5_recalls_4 : decode cX5_recalls 4 = .ok (.istore_n 3, 1) := by decide +kernel
theorem dX5_recalls_5 : decode cX5_recalls 5 = .ok (.iload_n 3, 1) := by decide +kernel
theorem dX5_recalls_6 : decode cX5_recalls 6 = .ok (.aload_n 0, 1) := by decide +kernel
theorem dX5_recalls_7 : decode cX5_recalls 7 = .ok (.getfield 11, 3) := by decide +kernel
theorem dX5_recalls_10 : decode cX5_recalls 10 = .ok (.iconst 1, 1) := by decide +kernel
theorem dX5_recalls_11 : decode cX5_recalls 11 = .ok (.iaload, 1) := by decide +kernel
theorem dX5_recalls_12 : decode cX5_recalls 12 = .ok (.if_icmp .ge 66, 3) := by decide +kernel
theorem dX5_recalls_15 : decode cX5_recalls 15 = .ok (.aload_n 0, 1) := by decide +kernel
theorem dX5_recalls_16 : decode cX5_recalls 16 = .ok (.iload_n 3, 1) := by decide +kernel
theorem dX5_recalls_17 : decode cX5_recalls 17 = .ok (.iconst 0, 1) := by decide +kernel
theorem dX5_recalls_18 : decode cX5_recalls 18 = .ok (.invokevirtual 73, 3) := by decide +kernel
theorem dX5_recalls_21 : decode cX5_recalls 21 = .ok (.iload_n 1, 1) := by decide +kernel
theorem dX5_recalls_22 : decode cX5_recalls 22 = .ok (.if_icmp .ne 50, 3) := by decide +kernel
theorem dX5_recalls_25 : decode cX5_recalls 25 = .ok (.aload_n 0, 1) := by decide +kernel
theorem dX5_recalls_26 : decode cX5_recalls 26 = .ok (.iload_n 3, 1) := by decide +kernel
theorem dX5_recalls_27 : decode cX5_recalls 27 = .ok (.iconst 3, 1) := by decide +kernel
theorem dX5_recalls_28 : decode cX5_recalls 28 = .ok (.invokevirtual 73, 3) := by decide +kernel
theorem dX5_recalls_31 : decode cX5_recalls 31 = .ok (.iconst 1, 1) := by decide +kernel
theorem dX5_recalls_32 : decode cX5_recalls 32 = .ok (.if_icmp .ne 40, 3) := by decide +kernel
theorem dX5_recalls_35 : decode cX5_recalls 35 = .ok (.aload_n 0, 1) := by decide +kernel
theorem dX5_recalls_36 : decode cX5_recalls 36 = .ok (.iload_n 3, 1) := by decide +kernel
theorem dX5_recalls_37 : decode cX5_recalls 37 = .ok (.bipush 8, 2) := by decide +kernel
theorem dX5_recalls_39 : decode cX5_recalls 39 = .ok (.invokevirtual 73, 3) := by decide +kernel
theorem dX5_recalls_42 : decode cX5_recalls 42 = .ok (.iconst 1, 1) := by decide +kernel
theorem dX5_recalls_43 : decode cX5_recalls 43 = .ok (.if_icmp .ne 6, 3) := by decide +kernel
theorem dX5_recalls_46 : decode cX5_recalls 46 = .ok (.goto 26, 3) := by decide +kernel
theorem dX5_recalls_49 : decode cX5_recalls 49 = .ok (.iload_n 2, 1) := by decide +kernel
theorem dX5_recalls_50 : decode cX5_recalls 50 = .ok (.ifCond .lt 20, 3) := by decide +kernel
theorem dX5_recalls_53 : decode cX5_recalls 53 = .ok (.aload_n 0, 1) := by decide +kernel
theorem dX5_recalls_54 : decode cX5_recalls 54 = .ok (.iload_n 3, 1) := by decide +kernel
theorem dX5_recalls_55 : decode cX5_recalls 55 = .ok (.bipush 6, 2) := by decide +kernel
theorem dX5_recalls_57 : decode cX5_recalls 57 = .ok (.invokevirtual 73, 3) := by decide +kernel
theorem dX5_recalls_60 : decode cX5_recalls 60 = .ok (.aload_n 0, 1) := by decide +kernel
theorem dX5_recalls_61 : decode cX5_recalls 61 = .ok (.iload_n 2, 1) := by decide +kernel
theorem dX5_recalls_62 : decode cX5_recalls 62 = .ok (.bipush 6, 2) := by decide +kernel
theorem dX5_recalls_64 : decode cX5_recalls 64 = .ok (.invokevirtual 73, 3) := by decide +kernel
theorem dX5_recalls_67 : decode cX5_recalls 67 = .ok (.if_icmp .ge 5, 3) := by decide +kernel
theorem dX5_recalls_70 : decode cX5_recalls 70 = .ok (.iload_n 3, 1) := by decide +kernel
theorem dX5_recalls_71 : decode cX5_recalls 71 = .ok (.istore_n 2, 1) := by decide +kernel
theorem dX5_recalls_72 : decode cX5_recalls 72 = .ok (.iinc 3 1, 3) := by decide +kernel
theorem dX5_recalls_75 : decode cX5_recalls 75 = .ok (.goto (-70), 3) := by decide +kernel
theorem dX5_recalls_78 : decode cX5_recalls 78 = .ok (.iload_n 2, 1) := by decide +kernel
theorem dX5_recalls_79 : decode cX5_recalls 79 = .ok (.ifCond .ge 4, 3) := by decide +kernel
theorem dX5_recalls_82 : decode cX5_recalls 82 = .ok (.return_, 1) := by decide +kernel
theorem dX5_recalls_83 : decode cX5_recalls 83 = .ok (.aload_n 0, 1) := by decide +kernel
theorem dX5_recalls_84 : decode cX5_recalls 84 = .ok (.iload_n 2, 1) := by decide +kernel
theorem dX5_recalls_85 : decode cX5_recalls 85 = .ok (.bipush 8, 2) := by decide +kernel
theorem dX5_recalls_87 : decode cX5_recalls 87 = .ok (.iconst 1, 1) := by decide +kernel
theorem dX5_recalls_88 : decode cX5_recalls 88 = .ok (.invokevirtual 55, 3) := by decide +kernel
theorem dX5_recalls_91 : decode cX5_recalls 91 = .ok (.aload_n 0, 1) := by decide +kernel
theorem dX5_recalls_92 : decode cX5_recalls 92 = .ok (.iload_n 2, 1) := by decide +kernel
theorem dX5_recalls_93 : decode cX5_recalls 93 = .ok (.iconst 5, 1) := by decide +kernel
theorem dX5_recalls_94 : decode cX5_recalls 94 = .ok (.aload_n 0, 1) := by decide +kernel
theorem dX5_recalls_95 : decode cX5_recalls 95 = .ok (.iload_n 2, 1) := by decide +kernel
theorem dX5_recalls_96 : decode cX5_recalls 96 = .ok (.iconst 5, 1) := by decide +kernel
theorem dX5_recalls_97 : decode cX5_recalls 97 = .ok (.invokevirtual 73, 3) := by decide +kernel
theorem dX5_recalls_100 : decode cX5_recalls 100 = .ok (.aload_n 0, 1) := by decide +kernel
theorem dX5_recalls_101 : decode cX5_recalls 101 = .ok (.getfield 11, 3) := by decide +kernel
theorem dX5_recalls_104 : decode cX5_recalls 104 = .ok (.iconst 0, 1) := by decide +kernel
theorem dX5_recalls_105 : decode cX5_recalls 105 = .ok (.iaload, 1) := by decide +kernel
theorem dX5_recalls_106 : decode cX5_recalls 106 = .ok (.iconst 3, 1) := by decide +kernel
theorem dX5_recalls_107 : decode cX5_recalls 107 = .ok (.iadd, 1) := by decide +kernel
theorem dX5_recalls_108 : decode cX5_recalls 108 = .ok (.aload_n 0, 1) := by decide +kernel
theorem dX5_recalls_109 : decode cX5_recalls 109 = .ok (.iload_n 2, 1) := by decide +kernel
theorem dX5_recalls_110 : decode cX5_recalls 110 = .ok (.bipush 6, 2) := by decide +kernel
theorem dX5_recalls_112 : decode cX5_recalls 112 = .ok (.invokevirtual 73, 3) := by decide +kernel
theorem dX5_recalls_115 : decode cX5_recalls 115 = .ok (.bipush 7, 2) := by decide +kernel
theorem dX5_recalls_117 : decode cX5_recalls 117 = .ok (.iadd, 1) := by decide +kernel
theorem dX5_recalls_118 : decode cX5_recalls 118 = .ok (.invokestatic 82, 3) := by decide +kernel
theorem dX5_recalls_121 : decode cX5_recalls 121 = .ok (.invokestatic 177, 3) := by decide +kernel
theorem dX5_recalls_124 : decode cX5_recalls 124 = .ok (.invokevirtual 55, 3) := by decide +kernel
theorem dX5_recalls_127 : decode cX5_recalls 127 = .ok (.return_, 1) := by decide +kernel
theorem dX5_laysHold_0 : decode cX5_laysHold 0 = .ok (.aload_n 0, 1) := by decide +kernel
theorem dX5_laysHold_1 : decode cX5_laysHold 1 = .ok (.iload_n 1, 1) := by decide +kernel
theorem dX5_laysHold_2 : decode cX5_laysHold 2 = .ok (.invokevirtual 147, 3) := by decide +kernel
theorem dX5_laysHold_5 : decode cX5_laysHold 5 = .ok (.ifCond .eq 17, 3) := by decide +kernel
theorem dX5_laysHold_8 : decode cX5_laysHold 8 = .ok (.iload_n 2, 1) := by decide +kernel
theorem dX5_laysHold_9 : decode cX5_laysHold 9 = .ok (.invokestatic 89, 3) := by decide +kernel
theorem dX5_laysHold_12 : decode cX5_laysHold 12 = .ok (.ifCond .eq 10, 3) := by decide +kernel
theorem dX5_laysHold_15 : decode cX5_laysHold 15 = .ok (.iload_n 3, 1) := by decide +kernel
theorem dX5_laysHold_16 : decode cX5_laysHold 16 = .ok (.invokestatic 93, 3) := by decide +kernel
theorem dX5_laysHold_19 : decode cX5_laysHold 19 = .ok (.ifCond .ne 5, 3) := by decide +kernel
theorem dX5_laysHold_22 : decode cX5_laysHold 22 = .ok (.iconst (-1), 1) := by decide +kernel
theorem dX5_laysHold_23 : decode cX5_laysHold 23 = .ok (.ireturn, 1) := by decide +kernel
theorem dX5_laysHold_24 : decode cX5_laysHold 24 = .ok (.aload_n 0, 1) := by decide +kernel
theorem dX5_laysHold_25 : decode cX5_laysHold 25 = .ok (.iload_n 1, 1) := by decide +kernel
theorem dX5_laysHold_26 : decode cX5_laysHold 26 = .ok (.iload_n 2, 1) := by decide +kernel
theorem dX5_laysHold_27 : decode cX5_laysHold 27 = .ok (.invokevirtual 179, 3) := by decide +kernel
theorem dX5_laysHold_30 : decode cX5_laysHold 30 = .ok (.istore 4, 2) := by decide +kernel
theorem dX5_laysHold_32 : decode cX5_laysHold 32 = .ok (.iload 4, 2) := by decide +kernel
theorem dX5_laysHold_34 : decode cX5_laysHold 34 = .ok (.ifCond .le 9, 3) := by decide +kernel
theorem dX5_laysHold_37 : decode cX5_laysHold 37 = .ok (.bipush (-100), 2) := by decide +kernel
theorem dX5_laysHold_39 : decode cX5_laysHold 39 = .ok (.iload 4, 2) := by decide +kernel
theorem dX5_laysHold_41 : decode cX5_laysHold 41 = .ok (.isub, 1) := by decide +kernel
theorem dX5_laysHold_42 : decode cX5_laysHold 42 = .ok (.ireturn, 1) := by decide +kernel
theorem dX5_laysHold_43 : decode cX5_laysHold 43 = .ok (.aload_n 0, 1) := by decide +kernel
theorem dX5_laysHold_44 : decode cX5_laysHold 44 = .ok (.getfield 11, 3) := by decide +kernel
theorem dX5_laysHold_47 : decode cX5_laysHold 47 = .ok (.iconst 3, 1) := by decide +kernel
theorem dX5_laysHold_48 : decode cX5_laysHold 48 = .ok (.iaload, 1) := by decide +kernel
theorem dX5_laysHold_49 : decode cX5_laysHold 49 = .ok (.istore 5, 2) := by decide +kernel
theorem dX5_laysHold_51 : decode cX5_laysHold 51 = .ok (.iload 5, 2) := by decide +kernel
theorem dX5_laysHold_53 : decode cX5_laysHold 53 = .ok (.bipush 24, 2) := by decide +kernel
theorem dX5_laysHold_55 : decode cX5_laysHold 55 = .ok (.if_icmp .ne 6, 3) := by decide +kernel
theorem dX5_laysHold_58 : decode cX5_laysHold 58 = .ok (.bipush (-3), 2) := by decide +kernel
theorem dX5_laysHold_60 : decode cX5_laysHold 60 = .ok (.ireturn, 1) := by decide +kernel
theorem dX5_laysHold_61 : decode cX5_laysHold 61 = .ok (.aload_n 0, 1) := by decide +kernel
theorem dX5_laysHold_62 : decode cX5_laysHold 62 = .ok (.getfield 11, 3) := by decide +kernel
theorem dX5_laysHold_65 : decode cX5_laysHold 65 = .ok (.sipush 285, 3) := by decide +kernel
theorem dX5_laysHold_68 : decode cX5_laysHold 68 = .ok (.iconst 4, 1) := by decide +kernel
theorem dX5_laysHold_69 : decode cX5_laysHold 69 = .ok (.iload 5, 2) := by decide +kernel
theorem dX5_laysHold_71 : decode cX5_laysHold 71 = .ok (.imul, 1) := by decide +kernel
theorem dX5_laysHold_72 : decode cX5_laysHold 72 = .ok (.iadd, 1) := by decide +kernel
theorem dX5_laysHold_73 : decode cX5_laysHold 73 = .ok (.iload_n 2, 1) := by decide +kernel
theorem dX5_laysHold_74 : decode cX5_laysHold 74 = .ok (.iastore, 1) := by decide +kernel
theorem dX5_laysHold_75 : decode cX5_laysHold 75 = .ok (.aload_n 0, 1) := by decide +kernel
theorem dX5_laysHold_76 : decode cX5_laysHold 76 = .ok (.getfield 11, 3) := by decide +kernel
theorem dX5_laysHold_79 : decode cX5_laysHold 79 = .ok (.sipush 285, 3) := by decide +kernel
theorem dX5_laysHold_82 : decode cX5_laysHold 82 = .ok (.iconst 4, 1) := by decide +kernel
theorem dX5_laysHold_83 : decode cX5_laysHold 83 = .ok (.iload 5, 2) := by decide +kernel
theorem dX5_laysHold_85 : decode cX5_laysHold 85 = .ok (.imul, 1) := by decide +kernel
theorem dX5_laysHold_86 : decode cX5_laysHold 86 = .ok (.iadd, 1) := by decide +kernel
theorem dX5_laysHold_87 : decode cX5_laysHold 87 = .ok (.iconst 1, 1) := by decide +kernel
theorem dX5_laysHold_88 : decode cX5_laysHold 88 = .ok (.iadd, 1) := by decide +kernel
theorem dX5_laysHold_89 : decode cX5_laysHold 89 = .ok (.iload_n 1, 1) := by decide +kernel
theorem dX5_laysHold_90 : decode cX5_laysHold 90 = .ok (.iastore, 1) := by decide +kernel
theorem dX5_laysHold_91 : decode cX5_laysHold 91 = .ok (.aload_n 0, 1) := by decide +kernel
theorem dX5_laysHold_92 : decode cX5_laysHold 92 = .ok (.getfield 11, 3) := by decide +kernel
theorem dX5_laysHold_95 : decode cX5_laysHold 95 = .ok (.sipush 285, 3) := by decide +kernel
theorem dX5_laysHold_98 : decode cX5_laysHold 98 = .ok (.iconst 4, 1) := by decide +kernel
theorem dX5_laysHold_99 : decode cX5_laysHold 99 = .ok (.iload 5, 2) := by decide +kernel
theorem dX5_laysHold_101 : decode cX5_laysHold 101 = .ok (.imul, 1) := by decide +kernel
theorem dX5_laysHold_102 : decode cX5_laysHold 102 = .ok (.iadd, 1) := by decide +kernel
theorem dX5_laysHold_103 : decode cX5_laysHold 103 = .ok (.iconst 2, 1) := by decide +kernel
theorem dX5_laysHold_104 : decode cX5_laysHold 104 = .ok (.iadd, 1) := by decide +kernel
theorem dX5_laysHold_105 : decode cX5_laysHold 105 = .ok (.iload_n 3, 1) := by decide +kernel
theorem dX5_laysHold_106 : decode cX5_laysHold 106 = .ok (.iastore, 1) := by decide +kernel
theorem dX5_laysHold_107 : decode cX5_laysHold 107 = .ok (.aload_n 0, 1) := by decide +kernel
theorem dX5_laysHold_108 : decode cX5_laysHold 108 = .ok (.getfield 11, 3) := by decide +kernel
theorem dX5_laysHold_111 : decode cX5_laysHold 111 = .ok (.sipush 285, 3) := by decide +kernel
theorem dX5_laysHold_114 : decode cX5_laysHold 114 = .ok (.iconst 4, 1) := by decide +kernel
theorem dX5_laysHold_115 : decode cX5_laysHold 115 = .ok (.iload 5, 2) := by decide +kernel
theorem dX5_laysHold_117 : decode cX5_laysHold 117 = .ok (.imul, 1) := by decide +kernel
theorem dX5_laysHold_118 : decode cX5_laysHold 118 = .ok (.iadd, 1) := by decide +kernel
theorem dX5_laysHold_119 : decode cX5_laysHold 119 = .ok (.iconst 3, 1) := by decide +kernel
theorem dX5_laysHold_120 : decode cX5_laysHold 120 = .ok (.iadd, 1) := by decide +kernel
theorem dX5_laysHold_121 : decode cX5_laysHold 121 = .ok (.bipush (-2), 2) := by decide +kernel
theorem dX5_laysHold_123 : decode cX5_laysHold 123 = .ok (.iastore, 1) := by decide +kernel
theorem dX5_laysHold_124 : decode cX5_laysHold 124 = .ok (.aload_n 0, 1) := by decide +kernel
theorem dX5_laysHold_125 : decode cX5_laysHold 125 = .ok (.getfield 11, 3) := by decide +kernel
theorem dX5_laysHold_128 : decode cX5_laysHold 128 = .ok (.iconst 3, 1) := by decide +kernel
theorem dX5_laysHold_129 : decode cX5_laysHold 129 = .ok (.dup2, 1) := by decide +kernel
theorem dX5_laysHold_130 : decode cX5_laysHold 130 = .ok (.iaload, 1) := by decide +kernel
theorem dX5_laysHold_131 : decode cX5_laysHold 131 = .ok (.iconst 1, 1) := by decide +kernel
theorem dX5_laysHold_132 : decode cX5_laysHold 132 = .ok (.iadd, 1) := by decide +kernel
theorem dX5_laysHold_133 : decode cX5_laysHold 133 = .ok (.iastore, 1) := by decide +kernel
theorem dX5_laysHold_134 : decode cX5_laysHold 134 = .ok (.aload_n 0, 1) := by decide +kernel
theorem dX5_laysHold_135 : decode cX5_laysHold 135 = .ok (.iload_n 2, 1) := by decide +kernel
theorem dX5_laysHold_136 : decode cX5_laysHold 136 = .ok (.iload_n 3, 1) := by decide +kernel
theorem dX5_laysHold_137 : decode cX5_laysHold 137 = .ok (.invokevirtual 182, 3) := by decide +kernel
theorem dX5_laysHold_140 : decode cX5_laysHold 140 = .ok (.istore 6, 2) := by decide +kernel
theorem dX5_laysHold_142 : decode cX5_laysHold 142 = .ok (.iload 6, 2) := by decide +kernel
theorem dX5_laysHold_144 : decode cX5_laysHold 144 = .ok (.ifCond .lt 21, 3) := by decide +kernel
theorem dX5_laysHold_147 : decode cX5_laysHold 147 = .ok (.aload_n 0, 1) := by decide +kernel
theorem dX5_laysHold_148 : decode cX5_laysHold 148 = .ok (.iload 6, 2) := by decide +kernel
theorem dX5_laysHold_150 : decode cX5_laysHold 150 = .ok (.aload_n 0, 1) := by decide +kernel
theorem dX5_laysHold_151 : decode cX5_laysHold 151 = .ok (.iload 6, 2) := by decide +kernel
theorem dX5_laysHold_153 : decode cX5_laysHold 153 = .ok (.iconst 4, 1) := by decide +kernel
theorem dX5_laysHold_154 : decode cX5_laysHold 154 = .ok (.invokevirtual 73, 3) := by decide +kernel
theorem dX5_laysHold_157 : decode cX5_laysHold 157 = .ok (.iload 5, 2) := by decide +kernel
theorem dX5_laysHold_159 : decode cX5_laysHold 159 = .ok (.invokevirtual 79, 3) := by decide +kernel
theorem dX5_laysHold_162 : decode cX5_laysHold 162 = .ok (.goto 8, 3) := by decide +kernel
theorem dX5_laysHold_165 : decode cX5_laysHold 165 = .ok (.aload_n 0, 1) := by decide +kernel
theorem dX5_laysHold_166 : decode cX5_laysHold 166 = .ok (.iload_n 2, 1) := by decide +kernel
theorem dX5_laysHold_167 : decode cX5_laysHold 167 = .ok (.invokevirtual 185, 3) := by decide +kernel
theorem dX5_laysHold_170 : decode cX5_laysHold 170 = .ok (.aload_n 0, 1) := by decide +kernel
theorem dX5_laysHold_171 : decode cX5_laysHold 171 = .ok (.iload_n 2, 1) := by decide +kernel
theorem dX5_laysHold_172 : decode cX5_laysHold 172 = .ok (.invokevirtual 159, 3) := by decide +kernel
theorem dX5_laysHold_175 : decode cX5_laysHold 175 = .ok (.ireturn, 1) := by decide +kernel
theorem dX5_hold__0 : decode cX5_hold_ 0 = .ok (.aload_n 0, 1) := by decide +kernel
theorem dX5_hold__1 : decode cX5_hold_ 1 = .ok (.invokevirtual 96, 3) := by decide +kernel
theorem dX5_hold__4 : decode cX5_hold_ 4 = .ok (.aload_n 0, 1) := by decide +kernel
theorem dX5_hold__5 : decode cX5_hold_ 5 = .ok (.aload_n 0, 1) := by decide +kernel
theorem dX5_hold__6 : decode cX5_hold_ 6 = .ok (.iload_n 1, 1) := by decide +kernel
theorem dX5_hold__7 : decode cX5_hold_ 7 = .ok (.iload_n 2, 1) := by decide +kernel
theorem dX5_hold__8 : decode cX5_hold_ 8 = .ok (.iload_n 3, 1) := by decide +kernel
theorem dX5_hold__9 : decode cX5_hold_ 9 = .ok (.invokevirtual 188, 3) := by decide +kernel
theorem dX5_hold__12 : decode cX5_hold_ 12 = .ok (.invokevirtual 103, 3) := by decide +kernel
theorem dX5_hold__15 : decode cX5_hold_ 15 = .ok (.ireturn, 1) := by decide +kernel
theorem dX5_cancels_0 : decode cX5_cancels 0 = .ok (.aload_n 0, 1) := by decide +kernel
theorem dX5_cancels_1 : decode cX5_cancels 1 = .ok (.iload_n 1, 1) := by decide +kernel
theorem dX5_cancels_2 : decode cX5_cancels 2 = .ok (.invokevirtual 147, 3) := by decide +kernel
theorem dX5_cancels_5 : decode cX5_cancels 5 = .ok (.ifCond .eq 10, 3) := by decide +kernel
theorem dX5_cancels_8 : decode cX5_cancels 8 = .ok (.iload_n 2, 1) := by decide +kernel
theorem dX5_cancels_9 : decode cX5_cancels 9 = .ok (.invokestatic 89, 3) := by decide +kernel
theorem dX5_cancels_12 : decode cX5_cancels 12 = .ok (.ifCond .ne 5, 3) := by decide +kernel
theorem dX5_cancels_15 : decode cX5_cancels 15 = .ok (.iconst (-1), 1) := by decide +kernel
theorem dX5_cancels_16 : decode cX5_cancels 16 = .ok (.ireturn, 1) := by decide +kernel
theorem dX5_cancels_17 : decode cX5_cancels 17 = .ok (.aload_n 0, 1) := by decide +kernel
theorem dX5_cancels_18 : decode cX5_cancels 18 = .ok (.iload_n 1, 1) := by decide +kernel
theorem dX5_cancels_19 : decode cX5_cancels 19 = .ok (.iload_n 2, 1) := by decide +kernel
theorem dX5_cancels_20 : decode cX5_cancels 20 = .ok (.invokevirtual 174, 3) := by decide +kernel
theorem dX5_cancels_23 : decode cX5_cancels 23 = .ok (.istore_n 3, 1) := by decide +kernel
theorem dX5_cancels_24 : decode cX5_cancels 24 = .ok (.iload_n 3, 1) := by decide +kernel
theorem dX5_cancels_25 : decode cX5_cancels 25 = .ok (.ifCond .ge 6, 3) := by decide +kernel
theorem dX5_cancels_28 : decode cX5_cancels 28 = .ok (.bipush (-2), 2) := by decide +kernel
theorem dX5_cancels_30 : decode cX5_cancels 30 = .ok (.ireturn, 1) := by decide +kernel
theorem dX5_cancels_31 : decode cX5_cancels 31 = .ok (.aload_n 0, 1) := by decide +kernel
theorem dX5_cancels_32 : decode cX5_cancels 32 = .ok (.iload_n 3, 1) := by decide +kernel
theorem dX5_cancels_33 : decode cX5_cancels 33 = .ok (.iconst 3, 1) := by decide +kernel
theorem dX5_cancels_34 : decode cX5_cancels 34 = .ok (.invokevirtual 59, 3) := by decide +kernel
theorem dX5_cancels_37 : decode cX5_cancels 37 = .ok (.istore 4, 2) := by decide +kernel
theorem dX5_cancels_39 : decode cX5_cancels 39 = .ok (.aload_n 0, 1) := by decide +kernel
theorem dX5_cancels_40 : decode cX5_cancels 40 = .ok (.iload_n 3, 1) := by decide +kernel
theorem dX5_cancels_41 : decode cX5_cancels 41 = .ok (.invokevirtual 119, 3) := by decide +kernel
theorem dX5_cancels_44 : decode cX5_cancels 44 = .ok (.iload 4, 2) := by decide +kernel
theorem dX5_cancels_46 : decode cX5_cancels 46 = .ok (.ifCond .lt 27, 3) := by decide +kernel
theorem dX5_cancels_49 : decode cX5_cancels 49 = .ok (.aload_n 0, 1) := by decide +kernel
theorem dX5_cancels_50 : decode cX5_cancels 50 = .ok (.iload 4, 2) := by decide +kernel
theorem dX5_cancels_52 : decode cX5_cancels 52 = .ok (.iconst 3, 1) := by decide +kernel
theorem dX5_cancels_53 : decode cX5_cancels 53 = .ok (.invokevirtual 73, 3) := by decide +kernel
theorem dX5_cancels_56 : decode cX5_cancels 56 = .ok (.iconst 3, 1) := by decide +kernel
theorem dX5_cancels_57 : decode cX5_cancels 57 = .ok (.if_icmp .ne 16, 3) := by decide +kernel
theorem dX5_cancels_60 : decode cX5_cancels 60 = .ok (.aload_n 0, 1) := by decide +kernel
theorem dX5_cancels_61 : decode cX5_cancels 61 = .ok (.iload 4, 2) := by decide +kernel
theorem dX5_cancels_63 : decode cX5_cancels 63 = .ok (.aload_n 0, 1) := by decide +kernel
theorem dX5_cancels_64 : decode cX5_cancels 64 = .ok (.iload 4, 2) := by decide +kernel
theorem dX5_cancels_66 : decode cX5_cancels 66 = .ok (.iconst 4, 1) := by decide +kernel
theorem dX5_cancels_67 : decode cX5_cancels 67 = .ok (.invokevirtual 73, 3) := by decide +kernel
theorem dX5_cancels_70 : decode cX5_cancels 70 = .ok (.invokevirtual 99, 3) := by decide +kernel
theorem dX5_cancels_73 : decode cX5_cancels 73 = .ok (.aload_n 0, 1) := by decide +kernel
theorem dX5_cancels_74 : decode cX5_cancels 74 = .ok (.iload_n 2, 1) := by decide +kernel
theorem dX5_cancels_75 : decode cX5_cancels 75 = .ok (.invokevirtual 192, 3) := by decide +kernel
theorem dX5_cancels_78 : decode cX5_cancels 78 = .ok (.ireturn, 1) := by decide +kernel
theorem dX5_cancelHold_0 : decode cX5_cancelHold 0 = .ok (.aload_n 0, 1) := by decide +kernel
theorem dX5_cancelHold_1 : decode cX5_cancelHold 1 = .ok (.invokevirtual 96, 3) := by decide +kernel
theorem dX5_cancelHold_4 : decode cX5_cancelHold 4 = .ok (.aload_n 0, 1) := by decide +kernel
theorem dX5_cancelHold_5 : decode cX5_cancelHold 5 = .ok (.aload_n 0, 1) := by decide +kernel
theorem dX5_cancelHold_6 : decode cX5_cancelHold 6 = .ok (.iload_n 1, 1) := by decide +kernel
theorem dX5_cancelHold_7 : decode cX5_cancelHold 7 = .ok (.iload_n 2, 1) := by decide +kernel
theorem dX5_cancelHold_8 : decode cX5_cancelHold 8 = .ok (.invokevirtual 195, 3) := by decide +kernel
theorem dX5_cancelHold_11 : decode cX5_cancelHold 11 = .ok (.invokevirtual 103, 3) := by decide +kernel
theorem dX5_cancelHold_14 : decode cX5_cancelHold 14 = .ok (.ireturn, 1) := by decide +kernel
theorem dX5_reason_0 : decode cX5_reason 0 = .ok (.iload_n 1, 1) := by decide +kernel
theorem dX5_reason_1 : decode cX5_reason 1 = .ok (.ifCond .ne 30, 3) := by decide +kernel
theorem dX5_reason_4 : decode cX5_reason 4 = .ok (.aload_n 0, 1) := by decide +kernel
theorem dX5_reason_5 : decode cX5_reason 5 = .ok (.iload_n 2, 1) := by decide +kernel
theorem dX5_reason_6 : decode cX5_reason 6 = .ok (.invokevirtual 147, 3) := by decide +kernel
theorem dX5_reason_9 : decode cX5_reason 9 = .ok (.ifCond .eq 20, 3) := by decide +kernel
theorem dX5_reason_12 : decode cX5_reason 12 = .ok (.aload_n 0, 1) := by decide +kernel
theorem dX5_reason_13 : decode cX5_reason 13 = .ok (.iload_n 3, 1) := by decide +kernel
theorem dX5_reason_14 : decode cX5_reason 14 = .ok (.invokevirtual 113, 3) := by decide +kernel
theorem dX5_reason_17 : decode cX5_reason 17 = .ok (.ifCond .eq 12, 3) := by decide +kernel
theorem dX5_reason_20 : decode cX5_reason 20 = .ok (.aload_n 0, 1) := by decide +kernel
theorem dX5_reason_21 : decode cX5_reason 21 = .ok (.iload_n 2, 1) := by decide +kernel
theorem dX5_reason_22 : decode cX5_reason 22 = .ok (.iload_n 3, 1) := by decide +kernel
theorem dX5_reason_23 : decode cX5_reason 23 = .ok (.invokevirtual 150, 3) := by decide +kernel
theorem dX5_reason_26 : decode cX5_reason 26 = .ok (.goto 4, 3) := by decide +kernel
theorem dX5_reason_29 : decode cX5_reason 29 = .ok (.iconst (-1), 1) := by decide +kernel
theorem dX5_reason_30 : decode cX5_reason 30 = .ok (.ireturn, 1) := by decide +kernel
theorem dX5_reason_31 : decode cX5_reason 31 = .ok (.iload_n 1, 1) := by decide +kernel
theorem dX5_reason_32 : decode cX5_reason 32 = .ok (.iconst 4, 1) := by decide +kernel
theorem dX5_reason_33 : decode cX5_reason 33 = .ok (.if_icmp .ne 29, 3) := by decide +kernel
theorem dX5_reason_36 : decode cX5_reason 36 = .ok (.aload_n 0, 1) := by decide +kernel
theorem dX5_reason_37 : decode cX5_reason 37 = .ok (.iload_n 2, 1) := by decide +kernel
theorem dX5_reason_38 : decode cX5_reason 38 = .ok (.invokevirtual 147, 3) := by decide +kernel
theorem dX5_reason_41 : decode cX5_reason 41 = .ok (.ifCond .eq 19, 3) := by decide +kernel
theorem dX5_reason_44 : decode cX5_reason 44 = .ok (.iload_n 3, 1) := by decide +kernel
theorem dX5_reason_45 : decode cX5_reason 45 = .ok (.invokestatic 89, 3) := by decide +kernel
theorem dX5_reason_48 : decode cX5_reason 48 = .ok (.ifCond .eq 12, 3) := by decide +kernel
theorem dX5_reason_51 : decode cX5_reason 51 = .ok (.aload_n 0, 1) := by decide +kernel
theorem dX5_reason_52 : decode cX5_reason 52 = .ok (.iload_n 2, 1) := by decide +kernel
theorem dX5_reason_53 : decode cX5_reason 53 = .ok (.iload_n 3, 1) := by decide +kernel
theorem dX5_reason_54 : decode cX5_reason 54 = .ok (.invokevirtual 179, 3) := by decide +kernel
theorem dX5_reason_57 : decode cX5_reason 57 = .ok (.goto 4, 3) := by decide +kernel
theorem dX5_reason_60 : decode cX5_reason 60 = .ok (.iconst (-1), 1) := by decide +kernel
theorem dX5_reason_61 : decode cX5_reason 61 = .ok (.ireturn, 1) := by decide +kernel
theorem dX5_reason_62 : decode cX5_reason 62 = .ok (.iload_n 1, 1) := by decide +kernel
theorem dX5_reason_63 : decode cX5_reason 63 = .ok (.iconst 1, 1) := by decide +kernel
theorem dX5_reason_64 : decode cX5_reason 64 = .ok (.iconst 3, 1) := by decide +kernel
theorem dX5_reason_65 : decode cX5_reason 65 = .ok (.invokestatic 51, 3) := by decide +kernel
theorem dX5_reason_68 : decode cX5_reason 68 = .ok (.ifCond .eq 15, 3) := by decide +kernel
theorem dX5_reason_71 : decode cX5_reason 71 = .ok (.iload_n 3, 1) := by decide +kernel
theorem dX5_reason_72 : decode cX5_reason 72 = .ok (.ifCond .ne 11, 3) := by decide +kernel
theorem dX5_reason_75 : decode cX5_reason 75 = .ok (.aload_n 0, 1) := by decide +kernel
theorem dX5_reason_76 : decode cX5_reason 76 = .ok (.iload_n 2, 1) := by decide +kernel
theorem dX5_reason_77 : decode cX5_reason 77 = .ok (.invokevirtual 113, 3) := by decide +kernel
theorem dX5_reason_80 : decode cX5_reason 80 = .ok (.ifCond .ne 5, 3) := by decide +kernel
theorem dX5_reason_83 : decode cX5_reason 83 = .ok (.iconst (-1), 1) := by decide +kernel
theorem dX5_reason_84 : decode cX5_reason 84 = .ok (.ireturn, 1) := by decide +kernel
theorem dX5_reason_85 : decode cX5_reason 85 = .ok (.iload_n 1, 1) := by decide +kernel
theorem dX5_reason_86 : decode cX5_reason 86 = .ok (.iconst 1, 1) := by decide +kernel
theorem dX5_reason_87 : decode cX5_reason 87 = .ok (.if_icmp .ne 11, 3) := by decide +kernel
theorem dX5_reason_90 : decode cX5_reason 90 = .ok (.aload_n 0, 1) := by decide +kernel
theorem dX5_reason_91 : decode cX5_reason 91 = .ok (.iload_n 2, 1) := by decide +kernel
theorem dX5_reason_92 : decode cX5_reason 92 = .ok (.invokevirtual 162, 3) := by decide +kernel
theorem dX5_reason_95 : decode cX5_reason 95 = .ok (.goto 21, 3) := by decide +kernel
theorem dX5_reason_98 : decode cX5_reason 98 = .ok (.iload_n 1, 1) := by decide +kernel
theorem dX5_reason_99 : decode cX5_reason 99 = .ok (.iconst 2, 1) := by decide +kernel
theorem dX5_reason_100 : decode cX5_reason 100 = .ok (.if_icmp .ne 11, 3) := by decide +kernel
theorem dX5_reason_103 : decode cX5_reason 103 = .ok (.aload_n 0, 1) := by decide +kernel
theorem dX5_reason_104 : decode cX5_reason 104 = .ok (.iload_n 2, 1) := by decide +kernel
theorem dX5_reason_105 : decode cX5_reason 105 = .ok (.invokevirtual 168, 3) := by decide +kernel
theorem dX5_reason_108 : decode cX5_reason 108 = .ok (.goto 8, 3) := by decide +kernel
theorem dX5_reason_111 : decode cX5_reason 111 = .ok (.aload_n 0, 1) := by decide +kernel
theorem dX5_reason_112 : decode cX5_reason 112 = .ok (.iload_n 2, 1) := by decide +kernel
theorem dX5_reason_113 : decode cX5_reason 113 = .ok (.invokevirtual 171, 3) := by decide +kernel
theorem dX5_reason_116 : decode cX5_reason 116 = .ok (.ireturn, 1) := by decide +kernel
theorem dX5_holdCount_0 : decode cX5_holdCount 0 = .ok (.iload_n 1, 1) := by decide +kernel
theorem dX5_holdCount_1 : decode cX5_holdCount 1 = .ok (.iconst (-1), 1) := by decide +kernel
theorem dX5_holdCount_2 : decode cX5_holdCount 2 = .ok (.iconst 5, 1) := by decide +kernel
theorem dX5_holdCount_3 : decode cX5_holdCount 3 = .ok (.invokestatic 51, 3) := by decide +kernel
theorem dX5_holdCount_6 : decode cX5_holdCount 6 = .ok (.ifCond .eq 11, 3) := by decide +kernel
theorem dX5_holdCount_9 : decode cX5_holdCount 9 = .ok (.aload_n 0, 1) := by decide +kernel
theorem dX5_holdCount_10 : decode cX5_holdCount 10 = .ok (.iload_n 1, 1) := by decide +kernel
theorem dX5_holdCount_11 : decode cX5_holdCount 11 = .ok (.invokevirtual 192, 3) := by decide +kernel
theorem dX5_holdCount_14 : decode cX5_holdCount 14 = .ok (.goto 4, 3) := by decide +kernel
theorem dX5_holdCount_17 : decode cX5_holdCount 17 = .ok (.iconst (-1), 1) := by decide +kernel
theorem dX5_holdCount_18 : decode cX5_holdCount 18 = .ok (.ireturn, 1) := by decide +kernel
theorem dX5_waiting_0 : decode cX5_waiting 0 = .ok (.iload_n 1, 1) := by decide +kernel
theorem dX5_waiting_1 : decode cX5_waiting 1 = .ok (.invokestatic 89, 3) := by decide +kernel
theorem dX5_waiting_4 : decode cX5_waiting 4 = .ok (.ifCond .eq 11, 3) := by decide +kernel
theorem dX5_waiting_7 : decode cX5_waiting 7 = .ok (.aload_n 0, 1) := by decide +kernel
theorem dX5_waiting_8 : decode cX5_waiting 8 = .ok (.iload_n 1, 1) := by decide +kernel
theorem dX5_waiting_9 : decode cX5_waiting 9 = .ok (.invokevirtual 159, 3) := by decide +kernel
theorem dX5_waiting_12 : decode cX5_waiting 12 = .ok (.goto 4, 3) := by decide +kernel
theorem dX5_waiting_15 : decode cX5_waiting 15 = .ok (.iconst (-1), 1) := by decide +kernel
theorem dX5_waiting_16 : decode cX5_waiting 16 = .ok (.ireturn, 1) := by decide +kernel
theorem dX5_holdAt_0 : decode cX5_holdAt 0 = .ok (.iload_n 1, 1) := by decide +kernel
theorem dX5_holdAt_1 : decode cX5_holdAt 1 = .ok (.invokestatic 89, 3) := by decide +kernel
theorem dX5_holdAt_4 : decode cX5_holdAt 4 = .ok (.ifCond .eq 12, 3) := by decide +kernel
theorem dX5_holdAt_7 : decode cX5_holdAt 7 = .ok (.iload_n 3, 1) := by decide +kernel
theorem dX5_holdAt_8 : decode cX5_holdAt 8 = .ok (.iconst 0, 1) := by decide +kernel
theorem dX5_holdAt_9 : decode cX5_holdAt 9 = .ok (.iconst 2, 1) := by decide +kernel
theorem dX5_holdAt_10 : decode cX5_holdAt 10 = .ok (.invokestatic 51, 3) := by decide +kernel
theorem dX5_holdAt_13 : decode cX5_holdAt 13 = .ok (.ifCond .ne 5, 3) := by decide +kernel
theorem dX5_holdAt_16 : decode cX5_holdAt 16 = .ok (.iconst (-1), 1) := by decide +kernel
theorem dX5_holdAt_17 : decode cX5_holdAt 17 = .ok (.ireturn, 1) := by decide +kernel
theorem dX5_holdAt_18 : decode cX5_holdAt 18 = .ok (.iload_n 2, 1) := by decide +kernel
theorem dX5_holdAt_19 : decode cX5_holdAt 19 = .ok (.istore 4, 2) := by decide +kernel
theorem dX5_holdAt_21 : decode cX5_holdAt 21 = .ok (.iconst 0, 1) := by decide +kernel
theorem dX5_holdAt_22 : decode cX5_holdAt 22 = .ok (.istore 5, 2) := by decide +kernel
theorem dX5_holdAt_24 : decode cX5_holdAt 24 = .ok (.iload 5, 2) := by decide +kernel
theorem dX5_holdAt_26 : decode cX5_holdAt 26 = .ok (.aload_n 0, 1) := by decide +kernel
theorem dX5_holdAt_27 : decode cX5_holdAt 27 = .ok (.getfield 11, 3) := by decide +kernel
theorem dX5_holdAt_30 : decode cX5_holdAt 30 = .ok (.iconst 3, 1) := by decide +kernel
theorem dX5_holdAt_31 : decode cX5_holdAt 31 = .ok (.iaload, 1) := by decide +kernel
theorem dX5_holdAt_32 : decode cX5_holdAt 32 = .ok (.if_icmp .ge 45, 3) := by decide +kernel
theorem dX5_holdAt_35 : decode cX5_holdAt 35 = .ok (.iload_n 2, 1) := by decide +kernel
theorem dX5_holdAt_36 : decode cX5_holdAt 36 = .ok (.ifCond .lt 41, 3) := by decide +kernel
theorem dX5_holdAt_39 : decode cX5_holdAt 39 = .ok (.aload_n 0, 1) := by decide +kernel
theorem dX5_holdAt_40 : decode cX5_holdAt 40 = .ok (.iload 5, 2) := by decide +kernel
theorem dX5_holdAt_42 : decode cX5_holdAt 42 = .ok (.iconst 0, 1) := by decide +kernel
theorem dX5_holdAt_43 : decode cX5_holdAt 43 = .ok (.invokevirtual 59, 3) := by decide +kernel
theorem dX5_holdAt_46 : decode cX5_holdAt 46 = .ok (.iload_n 1, 1) := by decide +kernel
theorem dX5_holdAt_47 : decode cX5_holdAt 47 = .ok (.if_icmp .eq 6, 3) := by decide +kernel
theorem dX5_holdAt_50 : decode cX5_holdAt 50 = .ok (.goto 21, 3) := by decide +kernel
theorem dX5_holdAt_53 : decode cX5_holdAt 53 = .ok (.iload 4, 2) := by decide +kernel
theorem dX5_holdAt_55 : decode cX5_holdAt 55 = .ok (.ifCond .ne 13, 3) := by decide +kernel
theorem dX5_holdAt_58 : decode cX5_holdAt 58 = .ok (.aload_n 0, 1) := by decide +kernel
theorem dX5_holdAt_59 : decode cX5_holdAt 59 = .ok (.iload 5, 2) := by decide +kernel
theorem dX5_holdAt_61 : decode cX5_holdAt 61 = .ok (.iconst 1, 1) := by decide +kernel
theorem dX5_holdAt_62 : decode cX5_holdAt 62 = .ok (.iload_n 3, 1) := by decide +kernel
theorem dX5_holdAt_63 : decode cX5_holdAt 63 = .ok (.iadd, 1) := by decide +kernel
theorem dX5_holdAt_64 : decode cX5_holdAt 64 = .ok (.invokevirtual 59, 3) := by decide +kernel
theorem dX5_holdAt_67 : decode cX5_holdAt 67 = .ok (.ireturn, 1) := by decide +kernel
theorem dX5_holdAt_68 : decode cX5_holdAt 68 = .ok (.iinc 4 (-1), 3) := by decide +kernel
theorem dX5_holdAt_71 : decode cX5_holdAt 71 = .ok (.iinc 5 1, 3) := by decide +kernel
theorem dX5_holdAt_74 : decode cX5_holdAt 74 = .ok (.goto (-50), 3) := by decide +kernel
theorem dX5_holdAt_77 : decode cX5_holdAt 77 = .ok (.bipush (-2), 2) := by decide +kernel
theorem dX5_holdAt_79 : decode cX5_holdAt 79 = .ok (.ireturn, 1) := by decide +kernel
theorem dX5_place_0 : decode cX5_place 0 = .ok (.aload_n 0, 1) := by decide +kernel
theorem dX5_place_1 : decode cX5_place 1 = .ok (.iload_n 1, 1) := by decide +kernel
theorem dX5_place_2 : decode cX5_place 2 = .ok (.invokevirtual 147, 3) := by decide +kernel
theorem dX5_place_5 : decode cX5_place 5 = .ok (.ifCond .eq 10, 3) := by decide +kernel
theorem dX5_place_8 : decode cX5_place 8 = .ok (.iload_n 2, 1) := by decide +kernel
theorem dX5_place_9 : decode cX5_place 9 = .ok (.invokestatic 89, 3) := by decide +kernel
theorem dX5_place_12 : decode cX5_place 12 = .ok (.ifCond .ne 5, 3) := by decide +kernel
theorem dX5_place_15 : decode cX5_place 15 = .ok (.iconst (-1), 1) := by decide +kernel
theorem dX5_place_16 : decode cX5_place 16 = .ok (.ireturn, 1) := by decide +kernel
theorem dX5_place_17 : decode cX5_place 17 = .ok (.aload_n 0, 1) := by decide +kernel
theorem dX5_place_18 : decode cX5_place 18 = .ok (.iload_n 1, 1) := by decide +kernel
theorem dX5_place_19 : decode cX5_place 19 = .ok (.iload_n 2, 1) := by decide +kernel
theorem dX5_place_20 : decode cX5_place 20 = .ok (.invokevirtual 174, 3) := by decide +kernel
theorem dX5_place_23 : decode cX5_place 23 = .ok (.istore_n 3, 1) := by decide +kernel
theorem dX5_place_24 : decode cX5_place 24 = .ok (.iload_n 3, 1) := by decide +kernel
theorem dX5_place_25 : decode cX5_place 25 = .ok (.ifCond .ge 6, 3) := by decide +kernel
theorem dX5_place_28 : decode cX5_place 28 = .ok (.bipush (-2), 2) := by decide +kernel
theorem dX5_place_30 : decode cX5_place 30 = .ok (.ireturn, 1) := by decide +kernel
theorem dX5_place_31 : decode cX5_place 31 = .ok (.iconst 0, 1) := by decide +kernel
theorem dX5_place_32 : decode cX5_place 32 = .ok (.istore 4, 2) := by decide +kernel
theorem dX5_place_34 : decode cX5_place 34 = .ok (.iconst 0, 1) := by decide +kernel
theorem dX5_place_35 : decode cX5_place 35 = .ok (.istore 5, 2) := by decide +kernel
theorem dX5_place_37 : decode cX5_place 37 = .ok (.iload 5, 2) := by decide +kernel
theorem dX5_place_39 : decode cX5_place 39 = .ok (.iload_n 3, 1) := by decide +kernel
theorem dX5_place_40 : decode cX5_place 40 = .ok (.if_icmp .ge 30, 3) := by decide +kernel
theorem dX5_place_43 : decode cX5_place 43 = .ok (.iload 4, 2) := by decide +kernel
theorem dX5_place_45 : decode cX5_place 45 = .ok (.aload_n 0, 1) := by decide +kernel
theorem dX5_place_46 : decode cX5_place 46 = .ok (.iload 5, 2) := by decide +kernel
theorem dX5_place_48 : decode cX5_place 48 = .ok (.iconst 0, 1) := by decide +kernel
theorem dX5_place_49 : decode cX5_place 49 = .ok (.invokevirtual 59, 3) := by decide +kernel
theorem dX5_place_52 : decode cX5_place 52 = .ok (.iload_n 2, 1) := by decide +kernel
theorem dX5_place_53 : decode cX5_place 53 = .ok (.if_icmp .ne 7, 3) := by decide +kernel
theorem dX5_place_56 : decode cX5_place 56 = .ok (.iconst 1, 1) := by decide +kernel
theorem dX5_place_57 : decode cX5_place 57 = .ok (.goto 4, 3) := by decide +kernel
theorem dX5_place_60 : decode cX5_place 60 = .ok (.iconst 0, 1) := by decide +kernel
theorem dX5_place_61 : decode cX5_place 61 = .ok (.iadd, 1) := by decide +kernel
theorem dX5_place_62 : decode cX5_place 62 = .ok (.istore 4, 2) := by decide +kernel
theorem dX5_place_64 : decode cX5_place 64 = .ok (.iinc 5 1, 3) := by decide +kernel
theorem dX5_place_67 : decode cX5_place 67 = .ok (.goto (-30), 3) := by decide +kernel
theorem dX5_place_70 : decode cX5_place 70 = .ok (.iload 4, 2) := by decide +kernel
theorem dX5_place_72 : decode cX5_place 72 = .ok (.ireturn, 1) := by decide +kernel
theorem dX5_freeDay_0 : decode cX5_freeDay 0 = .ok (.aload_n 0, 1) := by decide +kernel
theorem dX5_freeDay_1 : decode cX5_freeDay 1 = .ok (.iload_n 1, 1) := by decide +kernel
theorem dX5_freeDay_2 : decode cX5_freeDay 2 = .ok (.iconst 0, 1) := by decide +kernel
theorem dX5_freeDay_3 : decode cX5_freeDay 3 = .ok (.invokevirtual 73, 3) := by decide +kernel
theorem dX5_freeDay_6 : decode cX5_freeDay 6 = .ok (.iload_n 2, 1) := by decide +kernel
theorem dX5_freeDay_7 : decode cX5_freeDay 7 = .ok (.if_icmp .eq 6, 3) := by decide +kernel
theorem dX5_freeDay_10 : decode cX5_freeDay 10 = .ok (.bipush (-2), 2) := by decide +kernel
theorem dX5_freeDay_12 : decode cX5_freeDay 12 = .ok (.ireturn, 1) := by decide +kernel
theorem dX5_freeDay_13 : decode cX5_freeDay 13 = .ok (.aload_n 0, 1) := by decide +kernel
theorem dX5_freeDay_14 : decode cX5_freeDay 14 = .ok (.iload_n 1, 1) := by decide +kernel
theorem dX5_freeDay_15 : decode cX5_freeDay 15 = .ok (.iconst 3, 1) := by decide +kernel
theorem dX5_freeDay_16 : decode cX5_freeDay 16 = .ok (.invokevirtual 73, 3) := by decide +kernel
theorem dX5_freeDay_19 : decode cX5_freeDay 19 = .ok (.iconst 1, 1) := by decide +kernel
theorem dX5_freeDay_20 : decode cX5_freeDay 20 = .ok (.if_icmp .ne 19, 3) := by decide +kernel
theorem dX5_freeDay_23 : decode cX5_freeDay 23 = .ok (.aload_n 0, 1) := by decide +kernel
theorem dX5_freeDay_24 : decode cX5_freeDay 24 = .ok (.getfield 11, 3) := by decide +kernel
theorem dX5_freeDay_27 : decode cX5_freeDay 27 = .ok (.iconst 0, 1) := by decide +kernel
theorem dX5_freeDay_28 : decode cX5_freeDay 28 = .ok (.iaload, 1) := by decide +kernel
theorem dX5_freeDay_29 : decode cX5_freeDay 29 = .ok (.aload_n 0, 1) := by decide +kernel
theorem dX5_freeDay_30 : decode cX5_freeDay 30 = .ok (.iload_n 1, 1) := by decide +kernel
theorem dX5_freeDay_31 : decode cX5_freeDay 31 = .ok (.iconst 5, 1) := by decide +kernel
theorem dX5_freeDay_32 : decode cX5_freeDay 32 = .ok (.invokevirtual 73, 3) := by decide +kernel
theorem dX5_freeDay_35 : decode cX5_freeDay 35 = .ok (.invokestatic 82, 3) := by decide +kernel
theorem dX5_freeDay_38 : decode cX5_freeDay 38 = .ok (.ireturn, 1) := by decide +kernel
theorem dX5_freeDay_39 : decode cX5_freeDay 39 = .ok (.aload_n 0, 1) := by decide +kernel
theorem dX5_freeDay_40 : decode cX5_freeDay 40 = .ok (.iload_n 1, 1) := by decide +kernel
theorem dX5_freeDay_41 : decode cX5_freeDay 41 = .ok (.iconst 3, 1) := by decide +kernel
theorem dX5_freeDay_42 : decode cX5_freeDay 42 = .ok (.invokevirtual 73, 3) := by decide +kernel
theorem dX5_freeDay_45 : decode cX5_freeDay 45 = .ok (.iconst 2, 1) := by decide +kernel
theorem dX5_freeDay_46 : decode cX5_freeDay 46 = .ok (.if_icmp .ne 20, 3) := by decide +kernel
theorem dX5_freeDay_49 : decode cX5_freeDay 49 = .ok (.aload_n 0, 1) := by decide +kernel
theorem dX5_freeDay_50 : decode cX5_freeDay 50 = .ok (.iload_n 1, 1) := by decide +kernel
theorem dX5_freeDay_51 : decode cX5_freeDay 51 = .ok (.invokevirtual 116, 3) := by decide +kernel
theorem dX5_freeDay_54 : decode cX5_freeDay 54 = .ok (.ifCond .ge 12, 3) := by decide +kernel
theorem dX5_freeDay_57 : decode cX5_freeDay 57 = .ok (.aload_n 0, 1) := by decide +kernel
theorem dX5_freeDay_58 : decode cX5_freeDay 58 = .ok (.iload_n 1, 1) := by decide +kernel
theorem dX5_freeDay_59 : decode cX5_freeDay 59 = .ok (.iconst 5, 1) := by decide +kernel
theorem dX5_freeDay_60 : decode cX5_freeDay 60 = .ok (.invokevirtual 73, 3) := by decide +kernel
theorem dX5_freeDay_63 : decode cX5_freeDay 63 = .ok (.goto 5, 3) := by decide +kernel
theorem dX5_freeDay_66 : decode cX5_freeDay 66 = .ok (.bipush (-2), 2) := by decide +kernel
theorem dX5_freeDay_68 : decode cX5_freeDay 68 = .ok (.ireturn, 1) := by decide +kernel
theorem dX5_estimate_0 : decode cX5_estimate 0 = .ok (.aload_n 0, 1) := by decide +kernel
theorem dX5_estimate_1 : decode cX5_estimate 1 = .ok (.iload_n 1, 1) := by decide +kernel
theorem dX5_estimate_2 : decode cX5_estimate 2 = .ok (.invokevirtual 147, 3) := by decide +kernel
theorem dX5_estimate_5 : decode cX5_estimate 5 = .ok (.ifCond .eq 10, 3) := by decide +kernel
theorem dX5_estimate_8 : decode cX5_estimate 8 = .ok (.iload_n 2, 1) := by decide +kernel
theorem dX5_estimate_9 : decode cX5_estimate 9 = .ok (.invokestatic 89, 3) := by decide +kernel
theorem dX5_estimate_12 : decode cX5_estimate 12 = .ok (.ifCond .ne 5, 3) := by decide +kernel
theorem dX5_estimate_15 : decode cX5_estimate 15 = .ok (.iconst (-1), 1) := by decide +kernel
theorem dX5_estimate_16 : decode cX5_estimate 16 = .ok (.ireturn, 1) := by decide +kernel
theorem dX5_estimate_17 : decode cX5_estimate 17 = .ok (.aload_n 0, 1) := by decide +kernel
theorem dX5_estimate_18 : decode cX5_estimate 18 = .ok (.iload_n 1, 1) := by decide +kernel
theorem dX5_estimate_19 : decode cX5_estimate 19 = .ok (.iload_n 2, 1) := by decide +kernel
theorem dX5_estimate_20 : decode cX5_estimate 20 = .ok (.invokevirtual 174, 3) := by decide +kernel
theorem dX5_estimate_23 : decode cX5_estimate 23 = .ok (.istore_n 3, 1) := by decide +kernel
theorem dX5_estimate_24 : decode cX5_estimate 24 = .ok (.iload_n 3, 1) := by decide +kernel
theorem dX5_estimate_25 : decode cX5_estimate 25 = .ok (.ifCond .lt 14, 3) := by decide +kernel
theorem dX5_estimate_28 : decode cX5_estimate 28 = .ok (.aload_n 0, 1) := by decide +kernel
theorem dX5_estimate_29 : decode cX5_estimate 29 = .ok (.iload_n 3, 1) := by decide +kernel
theorem dX5_estimate_30 : decode cX5_estimate 30 = .ok (.iconst 3, 1) := by decide +kernel
theorem dX5_estimate_31 : decode cX5_estimate 31 = .ok (.invokevirtual 59, 3) := by decide +kernel
theorem dX5_estimate_34 : decode cX5_estimate 34 = .ok (.bipush (-2), 2) := by decide +kernel
theorem dX5_estimate_36 : decode cX5_estimate 36 = .ok (.if_icmp .eq 6, 3) := by decide +kernel
theorem dX5_estimate_39 : decode cX5_estimate 39 = .ok (.bipush (-2), 2) := by decide +kernel
theorem dX5_estimate_41 : decode cX5_estimate 41 = .ok (.ireturn, 1) := by decide +kernel
theorem dX5_estimate_42 : decode cX5_estimate 42 = .ok (.iconst 0, 1) := by decide +kernel
theorem dX5_estimate_43 : decode cX5_estimate 43 = .ok (.istore 4, 2) := by decide +kernel
theorem dX5_estimate_45 : decode cX5_estimate 45 = .ok (.iconst 0, 1) := by decide +kernel
theorem dX5_estimate_46 : decode cX5_estimate 46 = .ok (.istore 5, 2) := by decide +kernel
theorem dX5_estimate_48 : decode cX5_estimate 48 = .ok (.iload 5, 2) := by decide +kernel
theorem dX5_estimate_50 : decode cX5_estimate 50 = .ok (.iload_n 3, 1) := by decide +kernel
theorem dX5_estimate_51 : decode cX5_estimate 51 = .ok (.if_icmp .ge 42, 3) := by decide +kernel
theorem dX5_estimate_54 : decode cX5_estimate 54 = .ok (.iload 4, 2) := by decide +kernel
theorem dX5_estimate_56 : decode cX5_estimate 56 = .ok (.aload_n 0, 1) := by decide +kernel
theorem dX5_estimate_57 : decode cX5_estimate 57 = .ok (.iload 5, 2) := by decide +kernel
theorem dX5_estimate_59 : decode cX5_estimate 59 = .ok (.iconst 0, 1) := by decide +kernel
theorem dX5_estimate_60 : decode cX5_estimate 60 = .ok (.invokevirtual 59, 3) := by decide +kernel
theorem dX5_estimate_63 : decode cX5_estimate 63 = .ok (.iload_n 2, 1) := by decide +kernel
theorem dX5_estimate_64 : decode cX5_estimate 64 = .ok (.if_icmp .ne 19, 3) := by decide +kernel
theorem dX5_estimate_67 : decode cX5_estimate 67 = .ok (.aload_n 0, 1) := by decide +kernel
theorem dX5_estimate_68 : decode cX5_estimate 68 = .ok (.iload 5, 2) := by decide +kernel
theorem dX5_estimate_70 : decode cX5_estimate 70 = .ok (.iconst 3, 1) := by decide +kernel
theorem dX5_estimate_71 : decode cX5_estimate 71 = .ok (.invokevirtual 59, 3) := by decide +kernel
theorem dX5_estimate_74 : decode cX5_estimate 74 = .ok (.bipush (-2), 2) := by decide +kernel
theorem dX5_estimate_76 : decode cX5_estimate 76 = .ok (.if_icmp .ne 7, 3) := by decide +kernel
theorem dX5_estimate_79 : decode cX5_estimate 79 = .ok (.iconst 1, 1) := by decide +kernel
theorem dX5_estimate_80 : decode cX5_estimate 80 = .ok (.goto 4, 3) := by decide +kernel
theorem dX5_estimate_83 : decode cX5_estimate 83 = .ok (.iconst 0, 1) := by decide +kernel
theorem dX5_estimate_84 : decode cX5_estimate 84 = .ok (.iadd, 1) := by decide +kernel
theorem dX5_estimate_85 : decode cX5_estimate 85 = .ok (.istore 4, 2) := by decide +kernel
theorem dX5_estimate_87 : decode cX5_estimate 87 = .ok (.iinc 5 1, 3) := by decide +kernel
theorem dX5_estimate_90 : decode cX5_estimate 90 = .ok (.goto (-42), 3) := by decide +kernel
theorem dX5_estimate_93 : decode cX5_estimate 93 = .ok (.iconst 0, 1) := by decide +kernel
theorem dX5_estimate_94 : decode cX5_estimate 94 = .ok (.istore 5, 2) := by decide +kernel
theorem dX5_estimate_96 : decode cX5_estimate 96 = .ok (.iload 5, 2) := by decide +kernel
theorem dX5_estimate_98 : decode cX5_estimate 98 = .ok (.aload_n 0, 1) := by decide +kernel
theorem dX5_estimate_99 : decode cX5_estimate 99 = .ok (.getfield 11, 3) := by decide +kernel
theorem dX5_estimate_102 : decode cX5_estimate 102 = .ok (.iconst 1, 1) := by decide +kernel
theorem dX5_estimate_103 : decode cX5_estimate 103 = .ok (.iaload, 1) := by decide +kernel
theorem dX5_estimate_104 : decode cX5_estimate 104 = .ok (.if_icmp .ge 106, 3) := by decide +kernel
theorem dX5_estimate_107 : decode cX5_estimate 107 = .ok (.aload_n 0, 1) := by decide +kernel
theorem dX5_estimate_108 : decode cX5_estimate 108 = .ok (.iload 5, 2) := by decide +kernel
theorem dX5_estimate_110 : decode cX5_estimate 110 = .ok (.iload_n 2, 1) := by decide +kernel
theorem dX5_estimate_111 : decode cX5_estimate 111 = .ok (.invokevirtual 198, 3) := by decide +kernel
theorem dX5_estimate_114 : decode cX5_estimate 114 = .ok (.istore 6, 2) := by decide +kernel
theorem dX5_estimate_116 : decode cX5_estimate 116 = .ok (.iconst 0, 1) := by decide +kernel
theorem dX5_estimate_117 : decode cX5_estimate 117 = .ok (.istore 7, 2) := by decide +kernel
theorem dX5_estimate_119 : decode cX5_estimate 119 = .ok (.iconst 0, 1) := by decide +kernel
theorem dX5_estimate_120 : decode cX5_estimate 120 = .ok (.istore 8, 2) := by decide +kernel
theorem dX5_estimate_122 : decode cX5_estimate 122 = .ok (.iload 8, 2) := by decide +kernel
theorem dX5_estimate_124 : decode cX5_estimate 124 = .ok (.aload_n 0, 1) := by decide +kernel
theorem dX5_estimate_125 : decode cX5_estimate 125 = .ok (.getfield 11, 3) := by decide +kernel
theorem dX5_estimate_128 : decode cX5_estimate 128 = .ok (.iconst 1, 1) := by decide +kernel
theorem dX5_estimate_129 : decode cX5_estimate 129 = .ok (.iaload, 1) := by decide +kernel
theorem dX5_estimate_130 : decode cX5_estimate 130 = .ok (.if_icmp .ge 59, 3) := by decide +kernel
theorem dX5_estimate_133 : decode cX5_estimate 133 = .ok (.iload 6, 2) := by decide +kernel
theorem dX5_estimate_135 : decode cX5_estimate 135 = .ok (.ifCond .lt 54, 3) := by decide +kernel
theorem dX5_estimate_138 : decode cX5_estimate 138 = .ok (.aload_n 0, 1) := by decide +kernel
theorem dX5_estimate_139 : decode cX5_estimate 139 = .ok (.iload 8, 2) := by decide +kernel
theorem dX5_estimate_141 : decode cX5_estimate 141 = .ok (.iload_n 2, 1) := by decide +kernel
theorem dX5_estimate_142 : decode cX5_estimate 142 = .ok (.invokevirtual 198, 3) := by decide +kernel
theorem dX5_estimate_145 : decode cX5_estimate 145 = .ok (.istore 9, 2) := by decide +kernel
theorem dX5_estimate_147 : decode cX5_estimate 147 = .ok (.iload 7, 2) := by decide +kernel
theorem dX5_estimate_149 : decode cX5_estimate 149 = .ok (.iload 9, 2) := by decide +kernel
theorem dX5_estimate_151 : decode cX5_estimate 151 = .ok (.ifCond .lt 28, 3) := by decide +kernel
theorem dX5_estimate_154 : decode cX5_estimate 154 = .ok (.iload 9, 2) := by decide +kernel
theorem dX5_estimate_156 : decode cX5_estimate 156 = .ok (.iload 6, 2) := by decide +kernel
theorem dX5_estimate_158 : decode cX5_estimate 158 = .ok (.if_icmp .lt 17, 3) := by decide +kernel
theorem dX5_estimate_161 : decode cX5_estimate 161 = .ok (.iload 9, 2) := by decide +kernel
theorem dX5_estimate_163 : decode cX5_estimate 163 = .ok (.iload 6, 2) := by decide +kernel
theorem dX5_estimate_165 : decode cX5_estimate 165 = .ok (.if_icmp .ne 14, 3) := by decide +kernel
theorem dX5_estimate_168 : decode cX5_estimate 168 = .ok (.iload 8, 2) := by decide +kernel
theorem dX5_estimate_170 : decode cX5_estimate 170 = .ok (.iload 5, 2) := by decide +kernel
theorem dX5_estimate_172 : decode cX5_estimate 172 = .ok (.if_icmp .ge 7, 3) := by decide +kernel
theorem dX5_estimate_175 : decode cX5_estimate 175 = .ok (.iconst 1, 1) := by decide +kernel
theorem dX5_estimate_176 : decode cX5_estimate 176 = .ok (.goto 4, 3) := by decide +kernel
theorem dX5_estimate_179 : decode cX5_estimate 179 = .ok (.iconst 0, 1) := by decide +kernel
theorem dX5_estimate_180 : decode cX5_estimate 180 = .ok (.iadd, 1) := by decide +kernel
theorem dX5_estimate_181 : decode cX5_estimate 181 = .ok (.istore 7, 2) := by decide +kernel
theorem dX5_estimate_183 : decode cX5_estimate 183 = .ok (.iinc 8 1, 3) := by decide +kernel
theorem dX5_estimate_186 : decode cX5_estimate 186 = .ok (.goto (-64), 3) := by decide +kernel
theorem dX5_estimate_189 : decode cX5_estimate 189 = .ok (.iload 6, 2) := by decide +kernel
theorem dX5_estimate_191 : decode cX5_estimate 191 = .ok (.ifCond .lt 13, 3) := by decide +kernel
theorem dX5_estimate_194 : decode cX5_estimate 194 = .ok (.iload 7, 2) := by decide +kernel
theorem dX5_estimate_196 : decode cX5_estimate 196 = .ok (.iload 4, 2) := by decide +kernel
theorem dX5_estimate_198 : decode cX5_estimate 198 = .ok (.if_icmp .ne 6, 3) := by decide +kernel
theorem dX5_estimate_201 : decode cX5_estimate 201 = .ok (.iload 6, 2) := by decide +kernel
theorem dX5_estimate_203 : decode cX5_estimate 203 = .ok (.ireturn, 1) := by decide +kernel
theorem dX5_estimate_204 : decode cX5_estimate 204 = .ok (.iinc 5 1, 3) := by decide +kernel
theorem dX5_estimate_207 : decode cX5_estimate 207 = .ok (.goto (-111), 3) := by decide +kernel
theorem dX5_estimate_210 : decode cX5_estimate 210 = .ok (.bipush (-2), 2) := by decide +kernel
theorem dX5_estimate_212 : decode cX5_estimate 212 = .ok (.ireturn, 1) := by decide +kernel
theorem dX5_patronCount_0 : decode cX5_patronCount 0 = .ok (.aload_n 0, 1) := by decide +kernel
theorem dX5_patronCount_1 : decode cX5_patronCount 1 = .ok (.getfield 11, 3) := by decide +kernel
theorem dX5_patronCount_4 : decode cX5_patronCount 4 = .ok (.iconst 2, 1) := by decide +kernel
theorem dX5_patronCount_5 : decode cX5_patronCount 5 = .ok (.iaload, 1) := by decide +kernel
theorem dX5_patronCount_6 : decode cX5_patronCount 6 = .ok (.ireturn, 1) := by decide +kernel
theorem dX5_owes__0 : decode cX5_owes_ 0 = .ok (.aload_n 0, 1) := by decide +kernel
theorem dX5_owes__1 : decode cX5_owes_ 1 = .ok (.iload_n 1, 1) := by decide +kernel
theorem dX5_owes__2 : decode cX5_owes_ 2 = .ok (.invokevirtual 147, 3) := by decide +kernel
theorem dX5_owes__5 : decode cX5_owes_ 5 = .ok (.ifCond .eq 18, 3) := by decide +kernel
theorem dX5_owes__8 : decode cX5_owes_ 8 = .ok (.aload_n 0, 1) := by decide +kernel
theorem dX5_owes__9 : decode cX5_owes_ 9 = .ok (.getfield 11, 3) := by decide +kernel
theorem dX5_owes__12 : decode cX5_owes_ 12 = .ok (.sipush 253, 3) := by decide +kernel
theorem dX5_owes__15 : decode cX5_owes_ 15 = .ok (.iconst 4, 1) := by decide +kernel
theorem dX5_owes__16 : decode cX5_owes_ 16 = .ok (.iload_n 1, 1) := by decide +kernel
theorem dX5_owes__17 : decode cX5_owes_ 17 = .ok (.imul, 1) := by decide +kernel
theorem dX5_owes__18 : decode cX5_owes_ 18 = .ok (.iadd, 1) := by decide +kernel
theorem dX5_owes__19 : decode cX5_owes_ 19 = .ok (.iaload, 1) := by decide +kernel
theorem dX5_owes__20 : decode cX5_owes_ 20 = .ok (.goto 4, 3) := by decide +kernel
theorem dX5_owes__23 : decode cX5_owes_ 23 = .ok (.iconst (-1), 1) := by decide +kernel
theorem dX5_owes__24 : decode cX5_owes_ 24 = .ok (.ireturn, 1) := by decide +kernel
theorem dX5_accrued_0 : decode cX5_accrued 0 = .ok (.aload_n 0, 1) := by decide +kernel
theorem dX5_accrued_1 : decode cX5_accrued 1 = .ok (.iload_n 1, 1) := by decide +kernel
theorem dX5_accrued_2 : decode cX5_accrued 2 = .ok (.invokevirtual 147, 3) := by decide +kernel
theorem dX5_accrued_5 : decode cX5_accrued 5 = .ok (.ifCond .ne 5, 3) := by decide +kernel
theorem dX5_accrued_8 : decode cX5_accrued 8 = .ok (.iconst (-1), 1) := by decide +kernel
theorem dX5_accrued_9 : decode cX5_accrued 9 = .ok (.ireturn, 1) := by decide +kernel
theorem dX5_accrued_10 : decode cX5_accrued 10 = .ok (.iconst 0, 1) := by decide +kernel
theorem dX5_accrued_11 : decode cX5_accrued 11 = .ok (.istore_n 2, 1) := by decide +kernel
theorem dX5_accrued_12 : decode cX5_accrued 12 = .ok (.iconst 0, 1) := by decide +kernel
theorem dX5_accrued_13 : decode cX5_accrued 13 = .ok (.istore_n 3, 1) := by decide +kernel
theorem dX5_accrued_14 : decode cX5_accrued 14 = .ok (.iload_n 3, 1) := by decide +kernel
theorem dX5_accrued_15 : decode cX5_accrued 15 = .ok (.aload_n 0, 1) := by decide +kernel
theorem dX5_accrued_16 : decode cX5_accrued 16 = .ok (.getfield 11, 3) := by decide +kernel
theorem dX5_accrued_19 : decode cX5_accrued 19 = .ok (.iconst 1, 1) := by decide +kernel
theorem dX5_accrued_20 : decode cX5_accrued 20 = .ok (.iaload, 1) := by decide +kernel
theorem dX5_accrued_21 : decode cX5_accrued 21 = .ok (.if_icmp .ge 41, 3) := by decide +kernel
theorem dX5_accrued_24 : decode cX5_accrued 24 = .ok (.iload_n 2, 1) := by decide +kernel
theorem dX5_accrued_25 : decode cX5_accrued 25 = .ok (.aload_n 0, 1) := by decide +kernel
theorem dX5_accrued_26 : decode cX5_accrued 26 = .ok (.iload_n 3, 1) := by decide +kernel
theorem dX5_accrued_27 : decode cX5_accrued 27 = .ok (.iconst 3, 1) := by decide +kernel
theorem dX5_accrued_28 : decode cX5_accrued 28 = .ok (.invokevirtual 73, 3) := by decide +kernel
theorem dX5_accrued_31 : decode cX5_accrued 31 = .ok (.iconst 1, 1) := by decide +kernel
theorem dX5_accrued_32 : decode cX5_accrued 32 = .ok (.if_icmp .ne 21, 3) := by decide +kernel
theorem dX5_accrued_35 : decode cX5_accrued 35 = .ok (.aload_n 0, 1) := by decide +kernel
theorem dX5_accrued_36 : decode cX5_accrued 36 = .ok (.iload_n 3, 1) := by decide +kernel
theorem dX5_accrued_37 : decode cX5_accrued 37 = .ok (.iconst 4, 1) := by decide +kernel
theorem dX5_accrued_38 : decode cX5_accrued 38 = .ok (.invokevirtual 73, 3) := by decide +kernel
theorem dX5_accrued_41 : decode cX5_accrued 41 = .ok (.iload_n 1, 1) := by decide +kernel
theorem dX5_accrued_42 : decode cX5_accrued 42 = .ok (.if_icmp .ne 11, 3) := by decide +kernel
theorem dX5_accrued_45 : decode cX5_accrued 45 = .ok (.aload_n 0, 1) := by decide +kernel
theorem dX5_accrued_46 : decode cX5_accrued 46 = .ok (.iload_n 3, 1) := by decide +kernel
theorem dX5_accrued_47 : decode cX5_accrued 47 = .ok (.invokevirtual 123, 3) := by decide +kernel
theorem dX5_accrued_50 : decode cX5_accrued 50 = .ok (.goto 4, 3) := by decide +kernel
theorem dX5_accrued_53 : decode cX5_accrued 53 = .ok (.iconst 0, 1) := by decide +kernel
theorem dX5_accrued_54 : decode cX5_accrued 54 = .ok (.iadd, 1) := by decide +kernel
theorem dX5_accrued_55 : decode cX5_accrued 55 = .ok (.istore_n 2, 1) := by decide +kernel
theorem dX5_accrued_56 : decode cX5_accrued 56 = .ok (.iinc 3 1, 3) := by decide +kernel
theorem dX5_accrued_59 : decode cX5_accrued 59 = .ok (.goto (-45), 3) := by decide +kernel
theorem dX5_accrued_62 : decode cX5_accrued 62 = .ok (.iload_n 2, 1) := by decide +kernel
theorem dX5_accrued_63 : decode cX5_accrued 63 = .ok (.ireturn, 1) := by decide +kernel
theorem dX5_overdue_0 : decode cX5_overdue 0 = .ok (.iconst 0, 1) := by decide +kernel
theorem dX5_overdue_1 : decode cX5_overdue 1 = .ok (.istore_n 2, 1) := by decide +kernel
theorem dX5_overdue_2 : decode cX5_overdue 2 = .ok (.iconst 0, 1) := by decide +kernel
theorem dX5_overdue_3 : decode cX5_overdue 3 = .ok (.istore_n 3, 1) := by decide +kernel
theorem dX5_overdue_4 : decode cX5_overdue 4 = .ok (.iload_n 3, 1) := by decide +kernel
theorem dX5_overdue_5 : decode cX5_overdue 5 = .ok (.aload_n 0, 1) := by decide +kernel
theorem dX5_overdue_6 : decode cX5_overdue 6 = .ok (.getfield 11, 3) := by decide +kernel
theorem dX5_overdue_9 : decode cX5_overdue 9 = .ok (.iconst 1, 1) := by decide +kernel
theorem dX5_overdue_10 : decode cX5_overdue 10 = .ok (.iaload, 1) := by decide +kernel
theorem dX5_overdue_11 : decode cX5_overdue 11 = .ok (.if_icmp .ge 52, 3) := by decide +kernel
theorem dX5_overdue_14 : decode cX5_overdue 14 = .ok (.iload_n 2, 1) := by decide +kernel
theorem dX5_overdue_15 : decode cX5_overdue 15 = .ok (.aload_n 0, 1) := by decide +kernel
theorem dX5_overdue_16 : decode cX5_overdue 16 = .ok (.iload_n 3, 1) := by decide +kernel
theorem dX5_overdue_17 : decode cX5_overdue 17 = .ok (.iconst 3, 1) := by decide +kernel
theorem dX5_overdue_18 : decode cX5_overdue 18 = .ok (.invokevirtual 73, 3) := by decide +kernel
theorem dX5_overdue_21 : decode cX5_overdue 21 = .ok (.iconst 1, 1) := by decide +kernel
theorem dX5_overdue_22 : decode cX5_overdue 22 = .ok (.if_icmp .ne 32, 3) := by decide +kernel
theorem dX5_overdue_25 : decode cX5_overdue 25 = .ok (.aload_n 0, 1) := by decide +kernel
theorem dX5_overdue_26 : decode cX5_overdue 26 = .ok (.iload_n 3, 1) := by decide +kernel
theorem dX5_overdue_27 : decode cX5_overdue 27 = .ok (.iconst 4, 1) := by decide +kernel
theorem dX5_overdue_28 : decode cX5_overdue 28 = .ok (.invokevirtual 73, 3) := by decide +kernel
theorem dX5_overdue_31 : decode cX5_overdue 31 = .ok (.iload_n 1, 1) := by decide +kernel
theorem dX5_overdue_32 : decode cX5_overdue 32 = .ok (.if_icmp .ne 22, 3) := by decide +kernel
theorem dX5_overdue_35 : decode cX5_overdue 35 = .ok (.aload_n 0, 1) := by decide +kernel
theorem dX5_overdue_36 : decode cX5_overdue 36 = .ok (.iload_n 3, 1) := by decide +kernel
theorem dX5_overdue_37 : decode cX5_overdue 37 = .ok (.iconst 5, 1) := by decide +kernel
theorem dX5_overdue_38 : decode cX5_overdue 38 = .ok (.invokevirtual 73, 3) := by decide +kernel
theorem dX5_overdue_41 : decode cX5_overdue 41 = .ok (.aload_n 0, 1) := by decide +kernel
theorem dX5_overdue_42 : decode cX5_overdue 42 = .ok (.getfield 11, 3) := by decide +kernel
theorem dX5_overdue_45 : decode cX5_overdue 45 = .ok (.iconst 0, 1) := by decide +kernel
theorem dX5_overdue_46 : decode cX5_overdue 46 = .ok (.iaload, 1) := by decide +kernel
theorem dX5_overdue_47 : decode cX5_overdue 47 = .ok (.if_icmp .ge 7, 3) := by decide +kernel
theorem dX5_overdue_50 : decode cX5_overdue 50 = .ok (.iconst 1, 1) := by decide +kernel
theorem dX5_overdue_51 : decode cX5_overdue 51 = .ok (.goto 4, 3) := by decide +kernel
theorem dX5_overdue_54 : decode cX5_overdue 54 = .ok (.iconst 0, 1) := by decide +kernel
theorem dX5_overdue_55 : decode cX5_overdue 55 = .ok (.iadd, 1) := by decide +kernel
theorem dX5_overdue_56 : decode cX5_overdue 56 = .ok (.istore_n 2, 1) := by decide +kernel
theorem dX5_overdue_57 : decode cX5_overdue 57 = .ok (.iinc 3 1, 3) := by decide +kernel
theorem dX5_overdue_60 : decode cX5_overdue 60 = .ok (.goto (-56), 3) := by decide +kernel
theorem dX5_overdue_63 : decode cX5_overdue 63 = .ok (.iload_n 2, 1) := by decide +kernel
theorem dX5_overdue_64 : decode cX5_overdue 64 = .ok (.ireturn, 1) := by decide +kernel
theorem dX5_holdsOf_0 : decode cX5_holdsOf 0 = .ok (.iconst 0, 1) := by decide +kernel
theorem dX5_holdsOf_1 : decode cX5_holdsOf 1 = .ok (.istore_n 2, 1) := by decide +kernel
theorem dX5_holdsOf_2 : decode cX5_holdsOf 2 = .ok (.iconst 0, 1) := by decide +kernel
theorem dX5_holdsOf_3 : decode cX5_holdsOf 3 = .ok (.istore_n 3, 1) := by decide +kernel
theorem dX5_holdsOf_4 : decode cX5_holdsOf 4 = .ok (.iload_n 3, 1) := by decide +kernel
theorem dX5_holdsOf_5 : decode cX5_holdsOf 5 = .ok (.aload_n 0, 1) := by decide +kernel
theorem dX5_holdsOf_6 : decode cX5_holdsOf 6 = .ok (.getfield 11, 3) := by decide +kernel
theorem dX5_holdsOf_9 : decode cX5_holdsOf 9 = .ok (.iconst 3, 1) := by decide +kernel
theorem dX5_holdsOf_10 : decode cX5_holdsOf 10 = .ok (.iaload, 1) := by decide +kernel
theorem dX5_holdsOf_11 : decode cX5_holdsOf 11 = .ok (.if_icmp .ge 27, 3) := by decide +kernel
theorem dX5_holdsOf_14 : decode cX5_holdsOf 14 = .ok (.iload_n 2, 1) := by decide +kernel
theorem dX5_holdsOf_15 : decode cX5_holdsOf 15 = .ok (.aload_n 0, 1) := by decide +kernel
theorem dX5_holdsOf_16 : decode cX5_holdsOf 16 = .ok (.iload_n 3, 1) := by decide +kernel
theorem dX5_holdsOf_17 : decode cX5_holdsOf 17 = .ok (.iconst 1, 1) := by decide +kernel
theorem dX5_holdsOf_18 : decode cX5_holdsOf 18 = .ok (.invokevirtual 59, 3) := by decide +kernel
theorem dX5_holdsOf_21 : decode cX5_holdsOf 21 = .ok (.iload_n 1, 1) := by decide +kernel
theorem dX5_holdsOf_22 : decode cX5_holdsOf 22 = .ok (.if_icmp .ne 7, 3) := by decide +kernel
theorem dX5_holdsOf_25 : decode cX5_holdsOf 25 = .ok (.iconst 1, 1) := by decide +kernel
theorem dX5_holdsOf_26 : decode cX5_holdsOf 26 = .ok (.goto 4, 3) := by decide +kernel
theorem dX5_holdsOf_29 : decode cX5_holdsOf 29 = .ok (.iconst 0, 1) := by decide +kernel
theorem dX5_holdsOf_30 : decode cX5_holdsOf 30 = .ok (.iadd, 1) := by decide +kernel
theorem dX5_holdsOf_31 : decode cX5_holdsOf 31 = .ok (.istore_n 2, 1) := by decide +kernel
theorem dX5_holdsOf_32 : decode cX5_holdsOf 32 = .ok (.iinc 3 1, 3) := by decide +kernel
theorem dX5_holdsOf_35 : decode cX5_holdsOf 35 = .ok (.goto (-31), 3) := by decide +kernel
theorem dX5_holdsOf_38 : decode cX5_holdsOf 38 = .ok (.iload_n 2, 1) := by decide +kernel
theorem dX5_holdsOf_39 : decode cX5_holdsOf 39 = .ok (.ireturn, 1) := by decide +kernel
theorem dX5_patron_0 : decode cX5_patron 0 = .ok (.aload_n 0, 1) := by decide +kernel
theorem dX5_patron_1 : decode cX5_patron 1 = .ok (.iload_n 1, 1) := by decide +kernel
theorem dX5_patron_2 : decode cX5_patron 2 = .ok (.invokevirtual 147, 3) := by decide +kernel
theorem dX5_patron_5 : decode cX5_patron 5 = .ok (.ifCond .ne 5, 3) := by decide +kernel
theorem dX5_patron_8 : decode cX5_patron 8 = .ok (.iconst (-1), 1) := by decide +kernel
theorem dX5_patron_9 : decode cX5_patron 9 = .ok (.ireturn, 1) := by decide +kernel
theorem dX5_patron_10 : decode cX5_patron 10 = .ok (.iload_n 2, 1) := by decide +kernel
theorem dX5_patron_11 : decode cX5_patron 11 = .ok (.tableswitch 100 0 5 #[37, 43, 49, 64, 70, 85], 37) := by decide +kernel
theorem dX5_patron_48 : decode cX5_patron 48 = .ok (.aload_n 0, 1) := by decide +kernel
theorem dX5_patron_49 : decode cX5_patron 49 = .ok (.iload_n 1, 1) := by decide +kernel
theorem dX5_patron_50 : decode cX5_patron 50 = .ok (.invokevirtual 144, 3) := by decide +kernel
theorem dX5_patron_53 : decode cX5_patron 53 = .ok (.ireturn, 1) := by decide +kernel
theorem dX5_patron_54 : decode cX5_patron 54 = .ok (.aload_n 0, 1) := by decide +kernel
theorem dX5_patron_55 : decode cX5_patron 55 = .ok (.iload_n 1, 1) := by decide +kernel
theorem dX5_patron_56 : decode cX5_patron 56 = .ok (.invokevirtual 201, 3) := by decide +kernel
theorem dX5_patron_59 : decode cX5_patron 59 = .ok (.ireturn, 1) := by decide +kernel
theorem dX5_patron_60 : decode cX5_patron 60 = .ok (.aload_n 0, 1) := by decide +kernel
theorem dX5_patron_61 : decode cX5_patron 61 = .ok (.getfield 11, 3) := by decide +kernel
theorem dX5_patron_64 : decode cX5_patron 64 = .ok (.sipush 253, 3) := by decide +kernel
theorem dX5_patron_67 : decode cX5_patron 67 = .ok (.iconst 4, 1) := by decide +kernel
theorem dX5_patron_68 : decode cX5_patron 68 = .ok (.iload_n 1, 1) := by decide +kernel
theorem dX5_patron_69 : decode cX5_patron 69 = .ok (.imul, 1) := by decide +kernel
theorem dX5_patron_70 : decode cX5_patron 70 = .ok (.iadd, 1) := by decide +kernel
theorem dX5_patron_71 : decode cX5_patron 71 = .ok (.iconst 1, 1) := by decide +kernel
theorem dX5_patron_72 : decode cX5_patron 72 = .ok (.iadd, 1) := by decide +kernel
theorem dX5_patron_73 : decode cX5_patron 73 = .ok (.iaload, 1) := by decide +kernel
theorem dX5_patron_74 : decode cX5_patron 74 = .ok (.ireturn, 1) := by decide +kernel
theorem dX5_patron_75 : decode cX5_patron 75 = .ok (.aload_n 0, 1) := by decide +kernel
theorem dX5_patron_76 : decode cX5_patron 76 = .ok (.iload_n 1, 1) := by decide +kernel
theorem dX5_patron_77 : decode cX5_patron 77 = .ok (.invokevirtual 204, 3) := by decide +kernel
theorem dX5_patron_80 : decode cX5_patron 80 = .ok (.ireturn, 1) := by decide +kernel
theorem dX5_patron_81 : decode cX5_patron 81 = .ok (.aload_n 0, 1) := by decide +kernel
theorem dX5_patron_82 : decode cX5_patron 82 = .ok (.getfield 11, 3) := by decide +kernel
theorem dX5_patron_85 : decode cX5_patron 85 = .ok (.sipush 253, 3) := by decide +kernel
theorem dX5_patron_88 : decode cX5_patron 88 = .ok (.iconst 4, 1) := by decide +kernel
theorem dX5_patron_89 : decode cX5_patron 89 = .ok (.iload_n 1, 1) := by decide +kernel
theorem dX5_patron_90 : decode cX5_patron 90 = .ok (.imul, 1) := by decide +kernel
theorem dX5_patron_91 : decode cX5_patron 91 = .ok (.iadd, 1) := by decide +kernel
theorem dX5_patron_92 : decode cX5_patron 92 = .ok (.iconst 2, 1) := by decide +kernel
theorem dX5_patron_93 : decode cX5_patron 93 = .ok (.iadd, 1) := by decide +kernel
theorem dX5_patron_94 : decode cX5_patron 94 = .ok (.iaload, 1) := by decide +kernel
theorem dX5_patron_95 : decode cX5_patron 95 = .ok (.ireturn, 1) := by decide +kernel
theorem dX5_patron_96 : decode cX5_patron 96 = .ok (.aload_n 0, 1) := by decide +kernel
theorem dX5_patron_97 : decode cX5_patron 97 = .ok (.getfield 11, 3) := by decide +kernel
theorem dX5_patron_100 : decode cX5_patron 100 = .ok (.sipush 253, 3) := by decide +kernel
theorem dX5_patron_103 : decode cX5_patron 103 = .ok (.iconst 4, 1) := by decide +kernel
theorem dX5_patron_104 : decode cX5_patron 104 = .ok (.iload_n 1, 1) := by decide +kernel
theorem dX5_patron_105 : decode cX5_patron 105 = .ok (.imul, 1) := by decide +kernel
theorem dX5_patron_106 : decode cX5_patron 106 = .ok (.iadd, 1) := by decide +kernel
theorem dX5_patron_107 : decode cX5_patron 107 = .ok (.iconst 3, 1) := by decide +kernel
theorem dX5_patron_108 : decode cX5_patron 108 = .ok (.iadd, 1) := by decide +kernel
theorem dX5_patron_109 : decode cX5_patron 109 = .ok (.iaload, 1) := by decide +kernel
theorem dX5_patron_110 : decode cX5_patron 110 = .ok (.ireturn, 1) := by decide +kernel
theorem dX5_patron_111 : decode cX5_patron 111 = .ok (.iconst (-1), 1) := by decide +kernel
theorem dX5_patron_112 : decode cX5_patron 112 = .ok (.ireturn, 1) := by decide +kernel
theorem dX5_byDate_0 : decode cX5_byDate 0 = .ok (.iconst 0, 1) := by decide +kernel
theorem dX5_byDate_1 : decode cX5_byDate 1 = .ok (.istore 4, 2) := by decide +kernel
theorem dX5_byDate_3 : decode cX5_byDate 3 = .ok (.iload 4, 2) := by decide +kernel
theorem dX5_byDate_5 : decode cX5_byDate 5 = .ok (.aload_n 0, 1) := by decide +kernel
theorem dX5_byDate_6 : decode cX5_byDate 6 = .ok (.getfield 11, 3) := by decide +kernel
theorem dX5_byDate_9 : decode cX5_byDate 9 = .ok (.iconst 1, 1) := by decide +kernel
theorem dX5_byDate_10 : decode cX5_byDate 10 = .ok (.iaload, 1) := by decide +kernel
theorem dX5_byDate_11 : decode cX5_byDate 11 = .ok (.if_icmp .ge 151, 3) := by decide +kernel
theorem dX5_byDate_14 : decode cX5_byDate 14 = .ok (.aload_n 0, 1) := by decide +kernel
theorem dX5_byDate_15 : decode cX5_byDate 15 = .ok (.iload 4, 2) := by decide +kernel
theorem dX5_byDate_17 : decode cX5_byDate 17 = .ok (.iconst 3, 1) := by decide +kernel
theorem dX5_byDate_18 : decode cX5_byDate 18 = .ok (.invokevirtual 73, 3) := by decide +kernel
theorem dX5_byDate_21 : decode cX5_byDate 21 = .ok (.iload_n 1, 1) := by decide +kernel
theorem dX5_byDate_22 : decode cX5_byDate 22 = .ok (.if_icmp .ne 134, 3) := by decide +kernel
theorem dX5_byDate_25 : decode cX5_byDate 25 = .ok (.aload_n 0, 1) := by decide +kernel
theorem dX5_byDate_26 : decode cX5_byDate 26 = .ok (.iload 4, 2) := by decide +kernel
theorem dX5_byDate_28 : decode cX5_byDate 28 = .ok (.iconst 4, 1) := by decide +kernel
theorem dX5_byDate_29 : decode cX5_byDate 29 = .ok (.invokevirtual 73, 3) := by decide +kernel
theorem dX5_byDate_32 : decode cX5_byDate 32 = .ok (.iload_n 2, 1) := by decide +kernel
theorem dX5_byDate_33 : decode cX5_byDate 33 = .ok (.if_icmp .eq 6, 3) := by decide +kernel
theorem dX5_byDate_36 : decode cX5_byDate 36 = .ok (.goto 120, 3) := by decide +kernel
theorem dX5_byDate_39 : decode cX5_byDate 39 = .ok (.iconst 0, 1) := by decide +kernel
theorem dX5_byDate_40 : decode cX5_byDate 40 = .ok (.istore 5, 2) := by decide +kernel
theorem dX5_byDate_42 : decode cX5_byDate 42 = .ok (.iconst 0, 1) := by decide +kernel
theorem dX5_byDate_43 : decode cX5_byDate 43 = .ok (.istore 6, 2) := by decide +kernel
theorem dX5_byDate_45 : decode cX5_byDate 45 = .ok (.iload 6, 2) := by decide +kernel
theorem dX5_byDate_47 : decode cX5_byDate 47 = .ok (.aload_n 0, 1) := by decide +kernel
theorem dX5_byDate_48 : decode cX5_byDate 48 = .ok (.getfield 11, 3) := by decide +kernel
theorem dX5_byDate_51 : decode cX5_byDate 51 = .ok (.iconst 1, 1) := by decide +kernel
theorem dX5_byDate_52 : decode cX5_byDate 52 = .ok (.iaload, 1) := by decide +kernel
theorem dX5_byDate_53 : decode cX5_byDate 53 = .ok (.if_icmp .ge 94, 3) := by decide +kernel
theorem dX5_byDate_56 : decode cX5_byDate 56 = .ok (.aload_n 0, 1) := by decide +kernel
theorem dX5_byDate_57 : decode cX5_byDate 57 = .ok (.iload 6, 2) := by decide +kernel
theorem dX5_byDate_59 : decode cX5_byDate 59 = .ok (.iconst 3, 1) := by decide +kernel
theorem dX5_byDate_60 : decode cX5_byDate 60 = .ok (.invokevirtual 73, 3) := by decide +kernel
theorem dX5_byDate_63 : decode cX5_byDate 63 = .ok (.iload_n 1, 1) := by decide +kernel
theorem dX5_byDate_64 : decode cX5_byDate 64 = .ok (.if_icmp .ne 18, 3) := by decide +kernel
theorem dX5_byDate_67 : decode cX5_byDate 67 = .ok (.aload_n 0, 1) := by decide +kernel
theorem dX5_byDate_68 : decode cX5_byDate 68 = .ok (.iload 6, 2) := by decide +kernel
theorem dX5_byDate_70 : decode cX5_byDate 70 = .ok (.iconst 4, 1) := by decide +kernel
theorem dX5_byDate_71 : decode cX5_byDate 71 = .ok (.invokevirtual 73, 3) := by decide +kernel
theorem dX5_byDate_74 : decode cX5_byDate 74 = .ok (.iload_n 2, 1) := by decide +kernel
theorem dX5_byDate_75 : decode cX5_byDate 75 = .ok (.if_icmp .ne 7, 3) := by decide +kernel
theorem dX5_byDate_78 : decode cX5_byDate 78 = .ok (.iconst 1, 1) := by decide +kernel
theorem dX5_byDate_79 : decode cX5_byDate 79 = .ok (.goto 4, 3) := by decide +kernel
theorem dX5_byDate_82 : decode cX5_byDate 82 = .ok (.iconst 0, 1) := by decide +kernel
theorem dX5_byDate_83 : decode cX5_byDate 83 = .ok (.istore 7, 2) := by decide +kernel
theorem dX5_byDate_85 : decode cX5_byDate 85 = .ok (.iload 5, 2) := by decide +kernel
theorem dX5_byDate_87 : decode cX5_byDate 87 = .ok (.iload 7, 2) := by decide +kernel
theorem dX5_byDate_89 : decode cX5_byDate 89 = .ok (.ifCond .eq 48, 3) := by decide +kernel
theorem dX5_byDate_92 : decode cX5_byDate 92 = .ok (.aload_n 0, 1) := by decide +kernel
theorem dX5_byDate_93 : decode cX5_byDate 93 = .ok (.iload 6, 2) := by decide +kernel
theorem dX5_byDate_95 : decode cX5_byDate 95 = .ok (.iconst 5, 1) := by decide +kernel
theorem dX5_byDate_96 : decode cX5_byDate 96 = .ok (.invokevirtual 73, 3) := by decide +kernel
theorem dX5_byDate_99 : decode cX5_byDate 99 = .ok (.aload_n 0, 1) := by decide +kernel
theorem dX5_byDate_100 : decode cX5_byDate 100 = .ok (.iload 4, 2) := by decide +kernel
theorem dX5_byDate_102 : decode cX5_byDate 102 = .ok (.iconst 5, 1) := by decide +kernel
theorem dX5_byDate_103 : decode cX5_byDate 103 = .ok (.invokevirtual 73, 3) := by decide +kernel
theorem dX5_byDate_106 : decode cX5_byDate 106 = .ok (.if_icmp .lt 27, 3) := by decide +kernel
theorem dX5_byDate_109 : decode cX5_byDate 109 = .ok (.aload_n 0, 1) := by decide +kernel
theorem dX5_byDate_110 : decode cX5_byDate 110 = .ok (.iload 6, 2) := by decide +kernel
theorem dX5_byDate_112 : decode cX5_byDate 112 = .ok (.iconst 5, 1) := by decide +kernel
theorem dX5_byDate_113 : decode cX5_byDate 113 = .ok (.invokevirtual 73, 3) := by decide +kernel
theorem dX5_byDate_116 : decode cX5_byDate 116 = .ok (.aload_n 0, 1) := by decide +kernel
theorem dX5_byDate_117 : decode cX5_byDate 117 = .ok (.iload 4, 2) := by decide +kernel
theorem dX5_byDate_119 : decode cX5_byDate 119 = .ok (.iconst 5, 1) := by decide +kernel
theorem dX5_byDate_120 : decode cX5_byDate 120 = .ok (.invokevirtual 73, 3) := by decide +kernel
theorem dX5_byDate_123 : decode cX5_byDate 123 = .ok (.if_icmp .ne 14, 3) := by decide +kernel
theorem dX5_byDate_126 : decode cX5_byDate 126 = .ok (.iload 6, 2) := by decide +kernel
theorem dX5_byDate_128 : decode cX5_byDate 128 = .ok (.iload 4, 2) := by decide +kernel
theorem dX5_byDate_130 : decode cX5_byDate 130 = .ok (.if_icmp .ge 7, 3) := by decide +kernel
theorem dX5_byDate_133 : decode cX5_byDate 133 = .ok (.iconst 1, 1) := by decide +kernel
theorem dX5_byDate_134 : decode cX5_byDate 134 = .ok (.goto 4, 3) := by decide +kernel
theorem dX5_byDate_137 : decode cX5_byDate 137 = .ok (.iconst 0, 1) := by decide +kernel
theorem dX5_byDate_138 : decode cX5_byDate 138 = .ok (.iadd, 1) := by decide +kernel
theorem dX5_byDate_139 : decode cX5_byDate 139 = .ok (.istore 5, 2) := by decide +kernel
theorem dX5_byDate_141 : decode cX5_byDate 141 = .ok (.iinc 6 1, 3) := by decide +kernel
theorem dX5_byDate_144 : decode cX5_byDate 144 = .ok (.goto (-99), 3) := by decide +kernel
theorem dX5_byDate_147 : decode cX5_byDate 147 = .ok (.iload 5, 2) := by decide +kernel
theorem dX5_byDate_149 : decode cX5_byDate 149 = .ok (.iload_n 3, 1) := by decide +kernel
theorem dX5_byDate_150 : decode cX5_byDate 150 = .ok (.if_icmp .ne 6, 3) := by decide +kernel
theorem dX5_byDate_153 : decode cX5_byDate 153 = .ok (.iload 4, 2) := by decide +kernel
theorem dX5_byDate_155 : decode cX5_byDate 155 = .ok (.ireturn, 1) := by decide +kernel
theorem dX5_byDate_156 : decode cX5_byDate 156 = .ok (.iinc 4 1, 3) := by decide +kernel
theorem dX5_byDate_159 : decode cX5_byDate 159 = .ok (.goto (-156), 3) := by decide +kernel
theorem dX5_byDate_162 : decode cX5_byDate 162 = .ok (.bipush (-2), 2) := by decide +kernel
theorem dX5_byDate_164 : decode cX5_byDate 164 = .ok (.ireturn, 1) := by decide +kernel
theorem dX5_loanOf_0 : decode cX5_loanOf 0 = .ok (.aload_n 0, 1) := by decide +kernel
theorem dX5_loanOf_1 : decode cX5_loanOf 1 = .ok (.iload_n 1, 1) := by decide +kernel
theorem dX5_loanOf_2 : decode cX5_loanOf 2 = .ok (.invokevirtual 147, 3) := by decide +kernel
theorem dX5_loanOf_5 : decode cX5_loanOf 5 = .ok (.ifCond .eq 13, 3) := by decide +kernel
theorem dX5_loanOf_8 : decode cX5_loanOf 8 = .ok (.aload_n 0, 1) := by decide +kernel
theorem dX5_loanOf_9 : decode cX5_loanOf 9 = .ok (.iconst 1, 1) := by decide +kernel
theorem dX5_loanOf_10 : decode cX5_loanOf 10 = .ok (.iload_n 1, 1) := by decide +kernel
theorem dX5_loanOf_11 : decode cX5_loanOf 11 = .ok (.iload_n 2, 1) := by decide +kernel
theorem dX5_loanOf_12 : decode cX5_loanOf 12 = .ok (.invokevirtual 207, 3) := by decide +kernel
theorem dX5_loanOf_15 : decode cX5_loanOf 15 = .ok (.goto 4, 3) := by decide +kernel
theorem dX5_loanOf_18 : decode cX5_loanOf 18 = .ok (.iconst (-1), 1) := by decide +kernel
theorem dX5_loanOf_19 : decode cX5_loanOf 19 = .ok (.ireturn, 1) := by decide +kernel
theorem dX5_fine_0 : decode cX5_fine 0 = .ok (.aload_n 0, 1) := by decide +kernel
theorem dX5_fine_1 : decode cX5_fine 1 = .ok (.iload_n 1, 1) := by decide +kernel
theorem dX5_fine_2 : decode cX5_fine 2 = .ok (.invokevirtual 113, 3) := by decide +kernel
theorem dX5_fine_5 : decode cX5_fine 5 = .ok (.ifCond .ne 5, 3) := by decide +kernel
theorem dX5_fine_8 : decode cX5_fine 8 = .ok (.iconst (-1), 1) := by decide +kernel
theorem dX5_fine_9 : decode cX5_fine 9 = .ok (.ireturn, 1) := by decide +kernel
theorem dX5_fine_10 : decode cX5_fine 10 = .ok (.aload_n 0, 1) := by decide +kernel
theorem dX5_fine_11 : decode cX5_fine 11 = .ok (.iload_n 1, 1) := by decide +kernel
theorem dX5_fine_12 : decode cX5_fine 12 = .ok (.iconst 3, 1) := by decide +kernel
theorem dX5_fine_13 : decode cX5_fine 13 = .ok (.invokevirtual 73, 3) := by decide +kernel
theorem dX5_fine_16 : decode cX5_fine 16 = .ok (.istore_n 2, 1) := by decide +kernel
theorem dX5_fine_17 : decode cX5_fine 17 = .ok (.iload_n 2, 1) := by decide +kernel
theorem dX5_fine_18 : decode cX5_fine 18 = .ok (.iconst 1, 1) := by decide +kernel
theorem dX5_fine_19 : decode cX5_fine 19 = .ok (.if_icmp .ne 11, 3) := by decide +kernel
theorem dX5_fine_22 : decode cX5_fine 22 = .ok (.aload_n 0, 1) := by decide +kernel
theorem dX5_fine_23 : decode cX5_fine 23 = .ok (.iload_n 1, 1) := by decide +kernel
theorem dX5_fine_24 : decode cX5_fine 24 = .ok (.invokevirtual 123, 3) := by decide +kernel
theorem dX5_fine_27 : decode cX5_fine 27 = .ok (.goto 25, 3) := by decide +kernel
theorem dX5_fine_30 : decode cX5_fine 30 = .ok (.iload_n 2, 1) := by decide +kernel
theorem dX5_fine_31 : decode cX5_fine 31 = .ok (.iconst 4, 1) := by decide +kernel
theorem dX5_fine_32 : decode cX5_fine 32 = .ok (.if_icmp .eq 8, 3) := by decide +kernel
theorem dX5_fine_35 : decode cX5_fine 35 = .ok (.iload_n 2, 1) := by decide +kernel
theorem dX5_fine_36 : decode cX5_fine 36 = .ok (.iconst 5, 1) := by decide +kernel
theorem dX5_fine_37 : decode cX5_fine 37 = .ok (.if_icmp .ne 13, 3) := by decide +kernel
theorem dX5_fine_40 : decode cX5_fine 40 = .ok (.aload_n 0, 1) := by decide +kernel
theorem dX5_fine_41 : decode cX5_fine 41 = .ok (.iload_n 1, 1) := by decide +kernel
theorem dX5_fine_42 : decode cX5_fine 42 = .ok (.bipush 9, 2) := by decide +kernel
theorem dX5_fine_44 : decode cX5_fine 44 = .ok (.invokevirtual 73, 3) := by decide +kernel
theorem dX5_fine_47 : decode cX5_fine 47 = .ok (.goto 5, 3) := by decide +kernel
theorem dX5_fine_50 : decode cX5_fine 50 = .ok (.bipush (-2), 2) := by decide +kernel
theorem dX5_fine_52 : decode cX5_fine 52 = .ok (.ireturn, 1) := by decide +kernel
theorem dX5_lessens_0 : decode cX5_lessens 0 = .ok (.aload_n 0, 1) := by decide +kernel
theorem dX5_lessens_1 : decode cX5_lessens 1 = .ok (.iload_n 2, 1) := by decide +kernel
theorem dX5_lessens_2 : decode cX5_lessens 2 = .ok (.invokevirtual 147, 3) := by decide +kernel
theorem dX5_lessens_5 : decode cX5_lessens 5 = .ok (.ifCond .eq 24, 3) := by decide +kernel
theorem dX5_lessens_8 : decode cX5_lessens 8 = .ok (.iload_n 3, 1) := by decide +kernel
theorem dX5_lessens_9 : decode cX5_lessens 9 = .ok (.iconst 1, 1) := by decide +kernel
theorem dX5_lessens_10 : decode cX5_lessens 10 = .ok (.if_icmp .lt 19, 3) := by decide +kernel
theorem dX5_lessens_13 : decode cX5_lessens 13 = .ok (.iload_n 3, 1) := by decide +kernel
theorem dX5_lessens_14 : decode cX5_lessens 14 = .ok (.aload_n 0, 1) := by decide +kernel
theorem dX5_lessens_15 : decode cX5_lessens 15 = .ok (.getfield 11, 3) := by decide +kernel
theorem dX5_lessens_18 : decode cX5_lessens 18 = .ok (.sipush 253, 3) := by decide +kernel
theorem dX5_lessens_21 : decode cX5_lessens 21 = .ok (.iconst 4, 1) := by decide +kernel
theorem dX5_lessens_22 : decode cX5_lessens 22 = .ok (.iload_n 2, 1) := by decide +kernel
theorem dX5_lessens_23 : decode cX5_lessens 23 = .ok (.imul, 1) := by decide +kernel
theorem dX5_lessens_24 : decode cX5_lessens 24 = .ok (.iadd, 1) := by decide +kernel
theorem dX5_lessens_25 : decode cX5_lessens 25 = .ok (.iaload, 1) := by decide +kernel
theorem dX5_lessens_26 : decode cX5_lessens 26 = .ok (.if_icmp .le 5, 3) := by decide +kernel
theorem dX5_lessens_29 : decode cX5_lessens 29 = .ok (.iconst (-1), 1) := by decide +kernel
theorem dX5_lessens_30 : decode cX5_lessens 30 = .ok (.ireturn, 1) := by decide +kernel
theorem dX5_lessens_31 : decode cX5_lessens 31 = .ok (.aload_n 0, 1) := by decide +kernel
theorem dX5_lessens_32 : decode cX5_lessens 32 = .ok (.iload_n 1, 1) := by decide +kernel
theorem dX5_lessens_33 : decode cX5_lessens 33 = .ok (.iload_n 2, 1) := by decide +kernel
theorem dX5_lessens_34 : decode cX5_lessens 34 = .ok (.iload_n 3, 1) := by decide +kernel
theorem dX5_lessens_35 : decode cX5_lessens 35 = .ok (.ineg, 1) := by decide +kernel
theorem dX5_lessens_36 : decode cX5_lessens 36 = .ok (.iconst (-1), 1) := by decide +kernel
theorem dX5_lessens_37 : decode cX5_lessens 37 = .ok (.invokevirtual 126, 3) := by decide +kernel
theorem dX5_lessens_40 : decode cX5_lessens 40 = .ok (.aload_n 0, 1) := by decide +kernel
theorem dX5_lessens_41 : decode cX5_lessens 41 = .ok (.getfield 11, 3) := by decide +kernel
theorem dX5_lessens_44 : decode cX5_lessens 44 = .ok (.sipush 253, 3) := by decide +kernel
theorem dX5_lessens_47 : decode cX5_lessens 47 = .ok (.iconst 4, 1) := by decide +kernel
theorem dX5_lessens_48 : decode cX5_lessens 48 = .ok (.iload_n 2, 1) := by decide +kernel
theorem dX5_lessens_49 : decode cX5_lessens 49 = .ok (.imul, 1) := by decide +kernel
theorem dX5_lessens_50 : decode cX5_lessens 50 = .ok (.iadd, 1) := by decide +kernel
theorem dX5_lessens_51 : decode cX5_lessens 51 = .ok (.iaload, 1) := by decide +kernel
theorem dX5_lessens_52 : decode cX5_lessens 52 = .ok (.ireturn, 1) := by decide +kernel
theorem dX5_pay_0 : decode cX5_pay 0 = .ok (.aload_n 0, 1) := by decide +kernel
theorem dX5_pay_1 : decode cX5_pay 1 = .ok (.invokevirtual 96, 3) := by decide +kernel
theorem dX5_pay_4 : decode cX5_pay 4 = .ok (.aload_n 0, 1) := by decide +kernel
theorem dX5_pay_5 : decode cX5_pay 5 = .ok (.aload_n 0, 1) := by decide +kernel
theorem dX5_pay_6 : decode cX5_pay 6 = .ok (.iconst 3, 1) := by decide +kernel
theorem dX5_pay_7 : decode cX5_pay 7 = .ok (.iload_n 1, 1) := by decide +kernel
theorem dX5_pay_8 : decode cX5_pay 8 = .ok (.iload_n 2, 1) := by decide +kernel
theorem dX5_pay_9 : decode cX5_pay 9 = .ok (.invokevirtual 210, 3) := by decide +kernel
theorem dX5_pay_12 : decode cX5_pay 12 = .ok (.invokevirtual 103, 3) := by decide +kernel
theorem dX5_pay_15 : decode cX5_pay 15 = .ok (.ireturn, 1) := by decide +kernel
theorem dX5_waive_0 : decode cX5_waive 0 = .ok (.aload_n 0, 1) := by decide +kernel
theorem dX5_waive_1 : decode cX5_waive 1 = .ok (.invokevirtual 96, 3) := by decide +kernel
theorem dX5_waive_4 : decode cX5_waive 4 = .ok (.aload_n 0, 1) := by decide +kernel
theorem dX5_waive_5 : decode cX5_waive 5 = .ok (.aload_n 0, 1) := by decide +kernel
theorem dX5_waive_6 : decode cX5_waive 6 = .ok (.iconst 4, 1) := by decide +kernel
theorem dX5_waive_7 : decode cX5_waive 7 = .ok (.iload_n 1, 1) := by decide +kernel
theorem dX5_waive_8 : decode cX5_waive 8 = .ok (.iload_n 2, 1) := by decide +kernel
theorem dX5_waive_9 : decode cX5_waive 9 = .ok (.invokevirtual 210, 3) := by decide +kernel
theorem dX5_waive_12 : decode cX5_waive 12 = .ok (.invokevirtual 103, 3) := by decide +kernel
theorem dX5_waive_15 : decode cX5_waive 15 = .ok (.ireturn, 1) := by decide +kernel
theorem dX5_ledgerSize_0 : decode cX5_ledgerSize 0 = .ok (.aload_n 0, 1) := by decide +kernel
theorem dX5_ledgerSize_1 : decode cX5_ledgerSize 1 = .ok (.getfield 11, 3) := by decide +kernel
theorem dX5_ledgerSize_4 : decode cX5_ledgerSize 4 = .ok (.iconst 4, 1) := by decide +kernel
theorem dX5_ledgerSize_5 : decode cX5_ledgerSize 5 = .ok (.iaload, 1) := by decide +kernel
theorem dX5_ledgerSize_6 : decode cX5_ledgerSize 6 = .ok (.ireturn, 1) := by decide +kernel
theorem dX5_ledger_0 : decode cX5_ledger 0 = .ok (.iload_n 1, 1) := by decide +kernel
theorem dX5_ledger_1 : decode cX5_ledger 1 = .ok (.iconst 0, 1) := by decide +kernel
theorem dX5_ledger_2 : decode cX5_ledger 2 = .ok (.aload_n 0, 1) := by decide +kernel
theorem dX5_ledger_3 : decode cX5_ledger 3 = .ok (.getfield 11, 3) := by decide +kernel
theorem dX5_ledger_6 : decode cX5_ledger 6 = .ok (.iconst 4, 1) := by decide +kernel
theorem dX5_ledger_7 : decode cX5_ledger 7 = .ok (.iaload, 1) := by decide +kernel
theorem dX5_ledger_8 : decode cX5_ledger 8 = .ok (.iconst 1, 1) := by decide +kernel
theorem dX5_ledger_9 : decode cX5_ledger 9 = .ok (.isub, 1) := by decide +kernel
theorem dX5_ledger_10 : decode cX5_ledger 10 = .ok (.invokestatic 51, 3) := by decide +kernel
theorem dX5_ledger_13 : decode cX5_ledger 13 = .ok (.ifCond .eq 29, 3) := by decide +kernel
theorem dX5_ledger_16 : decode cX5_ledger 16 = .ok (.iload_n 2, 1) := by decide +kernel
theorem dX5_ledger_17 : decode cX5_ledger 17 = .ok (.iconst 0, 1) := by decide +kernel
theorem dX5_ledger_18 : decode cX5_ledger 18 = .ok (.iconst 4, 1) := by decide +kernel
theorem dX5_ledger_19 : decode cX5_ledger 19 = .ok (.invokestatic 51, 3) := by decide +kernel
theorem dX5_ledger_22 : decode cX5_ledger 22 = .ok (.ifCond .eq 20, 3) := by decide +kernel
theorem dX5_ledger_25 : decode cX5_ledger 25 = .ok (.aload_n 0, 1) := by decide +kernel
theorem dX5_ledger_26 : decode cX5_ledger 26 = .ok (.getfield 11, 3) := by decide +kernel
theorem dX5_ledger_29 : decode cX5_ledger 29 = .ok (.sipush 381, 3) := by decide +kernel
theorem dX5_ledger_32 : decode cX5_ledger 32 = .ok (.iconst 5, 1) := by decide +kernel
theorem dX5_ledger_33 : decode cX5_ledger 33 = .ok (.iload_n 1, 1) := by decide +kernel
theorem dX5_ledger_34 : decode cX5_ledger 34 = .ok (.imul, 1) := by decide +kernel
theorem dX5_ledger_35 : decode cX5_ledger 35 = .ok (.iadd, 1) := by decide +kernel
theorem dX5_ledger_36 : decode cX5_ledger 36 = .ok (.iload_n 2, 1) := by decide +kernel
theorem dX5_ledger_37 : decode cX5_ledger 37 = .ok (.iadd, 1) := by decide +kernel
theorem dX5_ledger_38 : decode cX5_ledger 38 = .ok (.iaload, 1) := by decide +kernel
theorem dX5_ledger_39 : decode cX5_ledger 39 = .ok (.goto 5, 3) := by decide +kernel
theorem dX5_ledger_42 : decode cX5_ledger 42 = .ok (.ldc 213, 2) := by decide +kernel
theorem dX5_ledger_44 : decode cX5_ledger 44 = .ok (.ireturn, 1) := by decide +kernel
theorem dX5_ledgerSum_0 : decode cX5_ledgerSum 0 = .ok (.aload_n 0, 1) := by decide +kernel
theorem dX5_ledgerSum_1 : decode cX5_ledgerSum 1 = .ok (.iload_n 1, 1) := by decide +kernel
theorem dX5_ledgerSum_2 : decode cX5_ledgerSum 2 = .ok (.invokevirtual 147, 3) := by decide +kernel
theorem dX5_ledgerSum_5 : decode cX5_ledgerSum 5 = .ok (.ifCond .eq 12, 3) := by decide +kernel
theorem dX5_ledgerSum_8 : decode cX5_ledgerSum 8 = .ok (.iload_n 2, 1) := by decide +kernel
theorem dX5_ledgerSum_9 : decode cX5_ledgerSum 9 = .ok (.iconst (-1), 1) := by decide +kernel
theorem dX5_ledgerSum_10 : decode cX5_ledgerSum 10 = .ok (.iconst 4, 1) := by decide +kernel
theorem dX5_ledgerSum_11 : decode cX5_ledgerSum 11 = .ok (.invokestatic 51, 3) := by decide +kernel
theorem dX5_ledgerSum_14 : decode cX5_ledgerSum 14 = .ok (.ifCond .ne 6, 3) := by decide +kernel
theorem dX5_ledgerSum_17 : decode cX5_ledgerSum 17 = .ok (.ldc 213, 2) := by decide +kernel
theorem dX5_ledgerSum_19 : decode cX5_ledgerSum 19 = .ok (.ireturn, 1) := by decide +kernel
theorem dX5_ledgerSum_20 : decode cX5_ledgerSum 20 = .ok (.iconst 0, 1) := by decide +kernel
theorem dX5_ledgerSum_21 : decode cX5_ledgerSum 21 = .ok (.istore_n 3, 1) := by decide +kernel
theorem dX5_ledgerSum_22 : decode cX5_ledgerSum 22 = .ok (.iconst 0, 1) := by decide +kernel
theorem dX5_ledgerSum_23 : decode cX5_ledgerSum 23 = .ok (.istore 4, 2) := by decide +kernel
theorem dX5_ledgerSum_25 : decode cX5_ledgerSum 25 = .ok (.iload 4, 2) := by decide +kernel
theorem dX5_ledgerSum_27 : decode cX5_ledgerSum 27 = .ok (.aload_n 0, 1) := by decide +kernel
theorem dX5_ledgerSum_28 : decode cX5_ledgerSum 28 = .ok (.getfield 11, 3) := by decide +kernel
theorem dX5_ledgerSum_31 : decode cX5_ledgerSum 31 = .ok (.iconst 4, 1) := by decide +kernel
theorem dX5_ledgerSum_32 : decode cX5_ledgerSum 32 = .ok (.iaload, 1) := by decide +kernel
theorem dX5_ledgerSum_33 : decode cX5_ledgerSum 33 = .ok (.if_icmp .ge 63, 3) := by decide +kernel
theorem dX5_ledgerSum_36 : decode cX5_ledgerSum 36 = .ok (.sipush 381, 3) := by decide +kernel
theorem dX5_ledgerSum_39 : decode cX5_ledgerSum 39 = .ok (.iconst 5, 1) := by decide +kernel
theorem dX5_ledgerSum_40 : decode cX5_ledgerSum 40 = .ok (.iload 4, 2) := by decide +kernel
theorem dX5_ledgerSum_42 : decode cX5_ledgerSum 42 = .ok (.imul, 1) := by decide +kernel
theorem dX5_ledgerSum_43 : decode cX5_ledgerSum 43 = .ok (.iadd, 1) := by decide +kernel
theorem dX5_ledgerSum_44 : decode cX5_ledgerSum 44 = .ok (.istore 5, 2) := by decide +kernel
theorem dX5_ledgerSum_46 : decode cX5_ledgerSum 46 = .ok (.iload_n 3, 1) := by decide +kernel
theorem dX5_ledgerSum_47 : decode cX5_ledgerSum 47 = .ok (.aload_n 0, 1) := by decide +kernel
theorem dX5_ledgerSum_48 : decode cX5_ledgerSum 48 = .ok (.getfield 11, 3) := by decide +kernel
theorem dX5_ledgerSum_51 : decode cX5_ledgerSum 51 = .ok (.iload 5, 2) := by decide +kernel
theorem dX5_ledgerSum_53 : decode cX5_ledgerSum 53 = .ok (.iconst 1, 1) := by decide +kernel
theorem dX5_ledgerSum_54 : decode cX5_ledgerSum 54 = .ok (.iadd, 1) := by decide +kernel
theorem dX5_ledgerSum_55 : decode cX5_ledgerSum 55 = .ok (.iaload, 1) := by decide +kernel
theorem dX5_ledgerSum_56 : decode cX5_ledgerSum 56 = .ok (.iload_n 1, 1) := by decide +kernel
theorem dX5_ledgerSum_57 : decode cX5_ledgerSum 57 = .ok (.if_icmp .ne 30, 3) := by decide +kernel
theorem dX5_ledgerSum_60 : decode cX5_ledgerSum 60 = .ok (.iload_n 2, 1) := by decide +kernel
theorem dX5_ledgerSum_61 : decode cX5_ledgerSum 61 = .ok (.ifCond .lt 14, 3) := by decide +kernel
theorem dX5_ledgerSum_64 : decode cX5_ledgerSum 64 = .ok (.aload_n 0, 1) := by decide +kernel
theorem dX5_ledgerSum_65 : decode cX5_ledgerSum 65 = .ok (.getfield 11, 3) := by decide +kernel
theorem dX5_ledgerSum_68 : decode cX5_ledgerSum 68 = .ok (.iload 5, 2) := by decide +kernel
theorem dX5_ledgerSum_70 : decode cX5_ledgerSum 70 = .ok (.iaload, 1) := by decide +kernel
theorem dX5_ledgerSum_71 : decode cX5_ledgerSum 71 = .ok (.iload_n 2, 1) := by decide +kernel
theorem dX5_ledgerSum_72 : decode cX5_ledgerSum 72 = .ok (.if_icmp .ne 15, 3) := by decide +kernel
theorem dX5_ledgerSum_75 : decode cX5_ledgerSum 75 = .ok (.aload_n 0, 1) := by decide +kernel
theorem dX5_ledgerSum_76 : decode cX5_ledgerSum 76 = .ok (.getfield 11, 3) := by decide +kernel
theorem dX5_ledgerSum_79 : decode cX5_ledgerSum 79 = .ok (.iload 5, 2) := by decide +kernel
theorem dX5_ledgerSum_81 : decode cX5_ledgerSum 81 = .ok (.iconst 2, 1) := by decide +kernel
theorem dX5_ledgerSum_82 : decode cX5_ledgerSum 82 = .ok (.iadd, 1) := by decide +kernel
theorem dX5_ledgerSum_83 : decode cX5_ledgerSum 83 = .ok (.iaload, 1) := by decide +kernel
theorem dX5_ledgerSum_84 : decode cX5_ledgerSum 84 = .ok (.goto 4, 3) := by decide +kernel
theorem dX5_ledgerSum_87 : decode cX5_ledgerSum 87 = .ok (.iconst 0, 1) := by decide +kernel
theorem dX5_ledgerSum_88 : decode cX5_ledgerSum 88 = .ok (.iadd, 1) := by decide +kernel
theorem dX5_ledgerSum_89 : decode cX5_ledgerSum 89 = .ok (.istore_n 3, 1) := by decide +kernel
theorem dX5_ledgerSum_90 : decode cX5_ledgerSum 90 = .ok (.iinc 4 1, 3) := by decide +kernel
theorem dX5_ledgerSum_93 : decode cX5_ledgerSum 93 = .ok (.goto (-68), 3) := by decide +kernel
theorem dX5_ledgerSum_96 : decode cX5_ledgerSum 96 = .ok (.iload_n 3, 1) := by decide +kernel
theorem dX5_ledgerSum_97 : decode cX5_ledgerSum 97 = .ok (.ireturn, 1) := by decide +kernel
theorem dX5_shelf_0 : decode cX5_shelf 0 = .ok (.iload_n 1, 1) := by decide +kernel
theorem dX5_shelf_1 : decode cX5_shelf 1 = .ok (.invokestatic 93, 3) := by decide +kernel
theorem dX5_shelf_4 : decode cX5_shelf 4 = .ok (.ifCond .ne 5, 3) := by decide +kernel
theorem dX5_shelf_7 : decode cX5_shelf 7 = .ok (.iconst (-1), 1) := by decide +kernel
theorem dX5_shelf_8 : decode cX5_shelf 8 = .ok (.ireturn, 1) := by decide +kernel
theorem dX5_shelf_9 : decode cX5_shelf 9 = .ok (.iconst 0, 1) := by decide +kernel
theorem dX5_shelf_10 : decode cX5_shelf 10 = .ok (.istore_n 3, 1) := by decide +kernel
theorem dX5_shelf_11 : decode cX5_shelf 11 = .ok (.iconst 0, 1) := by decide +kernel
theorem dX5_shelf_12 : decode cX5_shelf 12 = .ok (.istore 4, 2) := by decide +kernel
theorem dX5_shelf_14 : decode cX5_shelf 14 = .ok (.iload 4, 2) := by decide +kernel
theorem dX5_shelf_16 : decode cX5_shelf 16 = .ok (.aload_n 0, 1) := by decide +kernel
theorem dX5_shelf_17 : decode cX5_shelf 17 = .ok (.getfield 11, 3) := by decide +kernel
theorem dX5_shelf_20 : decode cX5_shelf 20 = .ok (.iconst 1, 1) := by decide +kernel
theorem dX5_shelf_21 : decode cX5_shelf 21 = .ok (.iaload, 1) := by decide +kernel
theorem dX5_shelf_22 : decode cX5_shelf 22 = .ok (.if_icmp .ge 55, 3) := by decide +kernel
theorem dX5_shelf_25 : decode cX5_shelf 25 = .ok (.aload_n 0, 1) := by decide +kernel
theorem dX5_shelf_26 : decode cX5_shelf 26 = .ok (.iload 4, 2) := by decide +kernel
theorem dX5_shelf_28 : decode cX5_shelf 28 = .ok (.iconst 3, 1) := by decide +kernel
theorem dX5_shelf_29 : decode cX5_shelf 29 = .ok (.invokevirtual 73, 3) := by decide +kernel
theorem dX5_shelf_32 : decode cX5_shelf 32 = .ok (.ifCond .eq 14, 3) := by decide +kernel
theorem dX5_shelf_35 : decode cX5_shelf 35 = .ok (.aload_n 0, 1) := by decide +kernel
theorem dX5_shelf_36 : decode cX5_shelf 36 = .ok (.iload 4, 2) := by decide +kernel
theorem dX5_shelf_38 : decode cX5_shelf 38 = .ok (.iconst 3, 1) := by decide +kernel
theorem dX5_shelf_39 : decode cX5_shelf 39 = .ok (.invokevirtual 73, 3) := by decide +kernel
theorem dX5_shelf_42 : decode cX5_shelf 42 = .ok (.iconst 3, 1) := by decide +kernel
theorem dX5_shelf_43 : decode cX5_shelf 43 = .ok (.if_icmp .ne 28, 3) := by decide +kernel
theorem dX5_shelf_46 : decode cX5_shelf 46 = .ok (.aload_n 0, 1) := by decide +kernel
theorem dX5_shelf_47 : decode cX5_shelf 47 = .ok (.iload 4, 2) := by decide +kernel
theorem dX5_shelf_49 : decode cX5_shelf 49 = .ok (.iconst 4, 1) := by decide +kernel
theorem dX5_shelf_50 : decode cX5_shelf 50 = .ok (.invokevirtual 73, 3) := by decide +kernel
theorem dX5_shelf_53 : decode cX5_shelf 53 = .ok (.iload_n 1, 1) := by decide +kernel
theorem dX5_shelf_54 : decode cX5_shelf 54 = .ok (.if_icmp .eq 6, 3) := by decide +kernel
theorem dX5_shelf_57 : decode cX5_shelf 57 = .ok (.goto 14, 3) := by decide +kernel
theorem dX5_shelf_60 : decode cX5_shelf 60 = .ok (.iload_n 3, 1) := by decide +kernel
theorem dX5_shelf_61 : decode cX5_shelf 61 = .ok (.iload_n 2, 1) := by decide +kernel
theorem dX5_shelf_62 : decode cX5_shelf 62 = .ok (.if_icmp .ne 6, 3) := by decide +kernel
theorem dX5_shelf_65 : decode cX5_shelf 65 = .ok (.iload 4, 2) := by decide +kernel
theorem dX5_shelf_67 : decode cX5_shelf 67 = .ok (.ireturn, 1) := by decide +kernel
theorem dX5_shelf_68 : decode cX5_shelf 68 = .ok (.iinc 3 1, 3) := by decide +kernel
theorem dX5_shelf_71 : decode cX5_shelf 71 = .ok (.iinc 4 1, 3) := by decide +kernel
theorem dX5_shelf_74 : decode cX5_shelf 74 = .ok (.goto (-60), 3) := by decide +kernel
theorem dX5_shelf_77 : decode cX5_shelf 77 = .ok (.iload_n 2, 1) := by decide +kernel
theorem dX5_shelf_78 : decode cX5_shelf 78 = .ok (.iconst (-1), 1) := by decide +kernel
theorem dX5_shelf_79 : decode cX5_shelf 79 = .ok (.if_icmp .ne 7, 3) := by decide +kernel
theorem dX5_shelf_82 : decode cX5_shelf 82 = .ok (.iload_n 3, 1) := by decide +kernel
theorem dX5_shelf_83 : decode cX5_shelf 83 = .ok (.goto 5, 3) := by decide +kernel
theorem dX5_shelf_86 : decode cX5_shelf 86 = .ok (.bipush (-2), 2) := by decide +kernel
theorem dX5_shelf_88 : decode cX5_shelf 88 = .ok (.ireturn, 1) := by decide +kernel
theorem dX5_arriving_0 : decode cX5_arriving 0 = .ok (.iload_n 1, 1) := by decide +kernel
theorem dX5_arriving_1 : decode cX5_arriving 1 = .ok (.invokestatic 93, 3) := by decide +kernel
theorem dX5_arriving_4 : decode cX5_arriving 4 = .ok (.ifCond .eq 13, 3) := by decide +kernel
theorem dX5_arriving_7 : decode cX5_arriving 7 = .ok (.aload_n 0, 1) := by decide +kernel
theorem dX5_arriving_8 : decode cX5_arriving 8 = .ok (.iconst 2, 1) := by decide +kernel
theorem dX5_arriving_9 : decode cX5_arriving 9 = .ok (.iload_n 1, 1) := by decide +kernel
theorem dX5_arriving_10 : decode cX5_arriving 10 = .ok (.iload_n 2, 1) := by decide +kernel
theorem dX5_arriving_11 : decode cX5_arriving 11 = .ok (.invokevirtual 207, 3) := by decide +kernel
theorem dX5_arriving_14 : decode cX5_arriving 14 = .ok (.goto 4, 3) := by decide +kernel
theorem dX5_arriving_17 : decode cX5_arriving 17 = .ok (.iconst (-1), 1) := by decide +kernel
theorem dX5_arriving_18 : decode cX5_arriving 18 = .ok (.ireturn, 1) := by decide +kernel
theorem dX5_feed_0 : decode cX5_feed 0 = .ok (.iload_n 1, 1) := by decide +kernel
theorem dX5_feed_1 : decode cX5_feed 1 = .ok (.bipush 32, 2) := by decide +kernel
theorem dX5_feed_3 : decode cX5_feed 3 = .ok (.bipush 126, 2) := by decide +kernel
theorem dX5_feed_5 : decode cX5_feed 5 = .ok (.invokestatic 51, 3) := by decide +kernel
theorem dX5_feed_8 : decode cX5_feed 8 = .ok (.ifCond .ne 5, 3) := by decide +kernel
theorem dX5_feed_11 : decode cX5_feed 11 = .ok (.iconst (-1), 1) := by decide +kernel
theorem dX5_feed_12 : decode cX5_feed 12 = .ok (.ireturn, 1) := by decide +kernel
theorem dX5_feed_13 : decode cX5_feed 13 = .ok (.aload_n 0, 1) := by decide +kernel
theorem dX5_feed_14 : decode cX5_feed 14 = .ok (.getfield 38, 3) := by decide +kernel
theorem dX5_feed_17 : decode cX5_feed 17 = .ok (.bipush 60, 2) := by decide +kernel
theorem dX5_feed_19 : decode cX5_feed 19 = .ok (.if_icmp .ne 6, 3) := by decide +kernel
theorem dX5_feed_22 : decode cX5_feed 22 = .ok (.bipush (-3), 2) := by decide +kernel
theorem dX5_feed_24 : decode cX5_feed 24 = .ok (.ireturn, 1) := by decide +kernel
theorem dX5_feed_25 : decode cX5_feed 25 = .ok (.aload_n 0, 1) := by decide +kernel
theorem dX5_feed_26 : decode cX5_feed 26 = .ok (.getfield 32, 3) := by decide +kernel
theorem dX5_feed_29 : decode cX5_feed 29 = .ok (.aload_n 0, 1) := by decide +kernel
theorem dX5_feed_30 : decode cX5_feed 30 = .ok (.getfield 38, 3) := by decide +kernel
theorem dX5_feed_33 : decode cX5_feed 33 = .ok (.iload_n 1, 1) := by decide +kernel
theorem dX5_feed_34 : decode cX5_feed 34 = .ok (.iastore, 1) := by decide +kernel
theorem dX5_feed_35 : decode cX5_feed 35 = .ok (.aload_n 0, 1) := by decide +kernel
theorem dX5_feed_36 : decode cX5_feed 36 = .ok (.dup, 1) := by decide +kernel
theorem dX5_feed_37 : decode cX5_feed 37 = .ok (.getfield 38, 3) := by decide +kernel
theorem dX5_feed_40 : decode cX5_feed 40 = .ok (.iconst 1, 1) := by decide +kernel
theorem dX5_feed_41 : decode cX5_feed 41 = .ok (.iadd, 1) := by decide +kernel
theorem dX5_feed_42 : decode cX5_feed 42 = .ok (.putfield 38, 3) := by decide +kernel
theorem dX5_feed_45 : decode cX5_feed 45 = .ok (.aload_n 0, 1) := by decide +kernel
theorem dX5_feed_46 : decode cX5_feed 46 = .ok (.getfield 38, 3) := by decide +kernel
theorem dX5_feed_49 : decode cX5_feed 49 = .ok (.ireturn, 1) := by decide +kernel
theorem dX5_sign_0 : decode cX5_sign 0 = .ok (.aload_n 0, 1) := by decide +kernel
theorem dX5_sign_1 : decode cX5_sign 1 = .ok (.getfield 44, 3) := by decide +kernel
theorem dX5_sign_4 : decode cX5_sign 4 = .ok (.ifCond .ne 26, 3) := by decide +kernel
theorem dX5_sign_7 : decode cX5_sign 7 = .ok (.aload_n 0, 1) := by decide +kernel
theorem dX5_sign_8 : decode cX5_sign 8 = .ok (.getfield 41, 3) := by decide +kernel
theorem dX5_sign_11 : decode cX5_sign 11 = .ok (.aload_n 0, 1) := by decide +kernel
theorem dX5_sign_12 : decode cX5_sign 12 = .ok (.getfield 38, 3) := by decide +kernel
theorem dX5_sign_15 : decode cX5_sign 15 = .ok (.if_icmp .ge 15, 3) := by decide +kernel
theorem dX5_sign_18 : decode cX5_sign 18 = .ok (.aload_n 0, 1) := by decide +kernel
theorem dX5_sign_19 : decode cX5_sign 19 = .ok (.getfield 32, 3) := by decide +kernel
theorem dX5_sign_22 : decode cX5_sign 22 = .ok (.aload_n 0, 1) := by decide +kernel
theorem dX5_sign_23 : decode cX5_sign 23 = .ok (.getfield 41, 3) := by decide +kernel
theorem dX5_sign_26 : decode cX5_sign 26 = .ok (.iaload, 1) := by decide +kernel
theorem dX5_sign_27 : decode cX5_sign 27 = .ok (.goto 5, 3) := by decide +kernel
theorem dX5_sign_30 : decode cX5_sign 30 = .ok (.bipush (-2), 2) := by decide +kernel
theorem dX5_sign_32 : decode cX5_sign 32 = .ok (.ireturn, 1) := by decide +kernel
theorem dX5_number_0 : decode cX5_number 0 = .ok (.iconst 0, 1) := by decide +kernel
theorem dX5_number_1 : decode cX5_number 1 = .ok (.istore_n 1, 1) := by decide +kernel
theorem dX5_number_2 : decode cX5_number 2 = .ok (.iconst 0, 1) := by decide +kernel
theorem dX5_number_3 : decode cX5_number 3 = .ok (.istore_n 2, 1) := by decide +kernel
theorem dX5_number_4 : decode cX5_number 4 = .ok (.iload_n 2, 1) := by decide +kernel
theorem dX5_number_5 : decode cX5_number 5 = .ok (.iconst 5, 1) := by decide +kernel
theorem dX5_number_6 : decode cX5_number 6 = .ok (.if_icmp .ge 46, 3) := by decide +kernel
theorem dX5_number_9 : decode cX5_number 9 = .ok (.aload_n 0, 1) := by decide +kernel
theorem dX5_number_10 : decode cX5_number 10 = .ok (.invokevirtual 214, 3) := by decide +kernel
theorem dX5_number_13 : decode cX5_number 13 = .ok (.bipush 48, 2) := by decide +kernel
theorem dX5_number_15 : decode cX5_number 15 = .ok (.bipush 57, 2) := by decide +kernel
theorem dX5_number_17 : decode cX5_number 17 = .ok (.invokestatic 51, 3) := by decide +kernel
theorem dX5_number_20 : decode cX5_number 20 = .ok (.ifCond .eq 32, 3) := by decide +kernel
theorem dX5_number_23 : decode cX5_number 23 = .ok (.bipush 10, 2) := by decide +kernel
theorem dX5_number_25 : decode cX5_number 25 = .ok (.iload_n 1, 1) := by decide +kernel
theorem dX5_number_26 : decode cX5_number 26 = .ok (.imul, 1) := by decide +kernel
theorem dX5_number_27 : decode cX5_number 27 = .ok (.aload_n 0, 1) := by decide +kernel
theorem dX5_number_28 : decode cX5_number 28 = .ok (.invokevirtual 214, 3) := by decide +kernel
theorem dX5_number_31 : decode cX5_number 31 = .ok (.iadd, 1) := by decide +kernel
theorem dX5_number_32 : decode cX5_number 32 = .ok (.bipush 48, 2) := by decide +kernel
theorem dX5_number_34 : decode cX5_number 34 = .ok (.isub, 1) := by decide +kernel
theorem dX5_number_35 : decode cX5_number 35 = .ok (.istore_n 1, 1) := by decide +kernel
theorem dX5_number_36 : decode cX5_number 36 = .ok (.aload_n 0, 1) := by decide +kernel
theorem dX5_number_37 : decode cX5_number 37 = .ok (.dup, 1) := by decide +kernel
theorem dX5_number_38 : decode cX5_number 38 = .ok (.getfield 41, 3) := by decide +kernel
theorem dX5_number_41 : decode cX5_number 41 = .ok (.iconst 1, 1) := by decide +kernel
theorem dX5_number_42 : decode cX5_number 42 = .ok (.iadd, 1) := by decide +kernel
theorem dX5_number_43 : decode cX5_number 43 = .ok (.putfield 41, 3) := by decide +kernel
theorem dX5_number_46 : decode cX5_number 46 = .ok (.iinc 2 1, 3) := by decide +kernel
theorem dX5_number_49 : decode cX5_number 49 = .ok (.goto (-45), 3) := by decide +kernel
theorem dX5_number_52 : decode cX5_number 52 = .ok (.aload_n 0, 1) := by decide +kernel
theorem dX5_number_53 : decode cX5_number 53 = .ok (.dup, 1) := by decide +kernel
theorem dX5_number_54 : decode cX5_number 54 = .ok (.getfield 44, 3) := by decide +kernel
theorem dX5_number_57 : decode cX5_number 57 = .ok (.iload_n 2, 1) := by decide +kernel
theorem dX5_number_58 : decode cX5_number 58 = .ok (.ifCond .ne 7, 3) := by decide +kernel
theorem dX5_number_61 : decode cX5_number 61 = .ok (.iconst 1, 1) := by decide +kernel
theorem dX5_number_62 : decode cX5_number 62 = .ok (.goto 4, 3) := by decide +kernel
theorem dX5_number_65 : decode cX5_number 65 = .ok (.iconst 0, 1) := by decide +kernel
theorem dX5_number_66 : decode cX5_number 66 = .ok (.ior, 1) := by decide +kernel
theorem dX5_number_67 : decode cX5_number 67 = .ok (.putfield 44, 3) := by decide +kernel
theorem dX5_number_70 : decode cX5_number 70 = .ok (.iload_n 1, 1) := by decide +kernel
theorem dX5_number_71 : decode cX5_number 71 = .ok (.ireturn, 1) := by decide +kernel
theorem dX5_command_0 : decode cX5_command 0 = .ok (.aload_n 0, 1) := by decide +kernel
theorem dX5_command_1 : decode cX5_command 1 = .ok (.invokevirtual 214, 3) := by decide +kernel
theorem dX5_command_4 : decode cX5_command 4 = .ok (.istore_n 1, 1) := by decide +kernel
theorem dX5_command_5 : decode cX5_command 5 = .ok (.iload_n 1, 1) := by decide +kernel
theorem dX5_command_6 : decode cX5_command 6 = .ok (.bipush 111, 2) := by decide +kernel
theorem dX5_command_8 : decode cX5_command 8 = .ok (.if_icmp .eq 21, 3) := by decide +kernel
theorem dX5_command_11 : decode cX5_command 11 = .ok (.iload_n 1, 1) := by decide +kernel
theorem dX5_command_12 : decode cX5_command 12 = .ok (.bipush 105, 2) := by decide +kernel
theorem dX5_command_14 : decode cX5_command 14 = .ok (.if_icmp .eq 15, 3) := by decide +kernel
theorem dX5_command_17 : decode cX5_command 17 = .ok (.iload_n 1, 1) := by decide +kernel
theorem dX5_command_18 : decode cX5_command 18 = .ok (.bipush 99, 2) := by decide +kernel
theorem dX5_command_20 : decode cX5_command 20 = .ok (.if_icmp .eq 9, 3) := by decide +kernel
theorem dX5_command_23 : decode cX5_command 23 = .ok (.iload_n 1, 1) := by decide +kernel
theorem dX5_command_24 : decode cX5_command 24 = .ok (.bipush 112, 2) := by decide +kernel
theorem dX5_command_26 : decode cX5_command 26 = .ok (.if_icmp .ne 7, 3) := by decide +kernel
theorem dX5_command_29 : decode cX5_command 29 = .ok (.iconst 2, 1) := by decide +kernel
theorem dX5_command_30 : decode cX5_command 30 = .ok (.goto 30, 3) := by decide +kernel
theorem dX5_command_33 : decode cX5_command 33 = .ok (.iload_n 1, 1) := by decide +kernel
theorem dX5_command_34 : decode cX5_command 34 = .ok (.bipush 104, 2) := by decide +kernel
theorem dX5_command_36 : decode cX5_command 36 = .ok (.if_icmp .ne 7, 3) := by decide +kernel
theorem dX5_command_39 : decode cX5_command 39 = .ok (.iconst 3, 1) := by decide +kernel
theorem dX5_command_40 : decode cX5_command 40 = .ok (.goto 20, 3) := by decide +kernel
theorem dX5_command_43 : decode cX5_command 43 = .ok (.iload_n 1, 1) := by decide +kernel
theorem dX5_command_44 : decode cX5_command 44 = .ok (.bipush 114, 2) := by decide +kernel
theorem dX5_command_46 : decode cX5_command 46 = .ok (.if_icmp .eq 9, 3) := by decide +kernel
theorem dX5_command_49 : decode cX5_command 49 = .ok (.iload_n 1, 1) := by decide +kernel
theorem dX5_command_50 : decode cX5_command 50 = .ok (.bipush 100, 2) := by decide +kernel
theorem dX5_command_52 : decode cX5_command 52 = .ok (.if_icmp .ne 7, 3) := by decide +kernel
theorem dX5_command_55 : decode cX5_command 55 = .ok (.iconst 1, 1) := by decide +kernel
theorem dX5_command_56 : decode cX5_command 56 = .ok (.goto 4, 3) := by decide +kernel
theorem dX5_command_59 : decode cX5_command 59 = .ok (.iconst 0, 1) := by decide +kernel
theorem dX5_command_60 : decode cX5_command 60 = .ok (.istore_n 2, 1) := by decide +kernel
theorem dX5_command_61 : decode cX5_command 61 = .ok (.aload_n 0, 1) := by decide +kernel
theorem dX5_command_62 : decode cX5_command 62 = .ok (.dup, 1) := by decide +kernel
theorem dX5_command_63 : decode cX5_command 63 = .ok (.getfield 44, 3) := by decide +kernel
theorem dX5_command_66 : decode cX5_command 66 = .ok (.iload_n 2, 1) := by decide +kernel
theorem dX5_command_67 : decode cX5_command 67 = .ok (.ifCond .ne 7, 3) := by decide +kernel
theorem dX5_command_70 : decode cX5_command 70 = .ok (.iconst 1, 1) := by decide +kernel
theorem dX5_command_71 : decode cX5_command 71 = .ok (.goto 4, 3) := by decide +kernel
theorem dX5_command_74 : decode cX5_command 74 = .ok (.iconst 0, 1) := by decide +kernel
theorem dX5_command_75 : decode cX5_command 75 = .ok (.ior, 1) := by decide +kernel
theorem dX5_command_76 : decode cX5_command 76 = .ok (.putfield 44, 3) := by decide +kernel
theorem dX5_command_79 : decode cX5_command 79 = .ok (.aload_n 0, 1) := by decide +kernel
theorem dX5_command_80 : decode cX5_command 80 = .ok (.getfield 44, 3) := by decide +kernel
theorem dX5_command_83 : decode cX5_command 83 = .ok (.ifCond .eq 6, 3) := by decide +kernel
theorem dX5_command_86 : decode cX5_command 86 = .ok (.bipush (-2), 2) := by decide +kernel
theorem dX5_command_88 : decode cX5_command 88 = .ok (.ireturn, 1) := by decide +kernel
theorem dX5_command_89 : decode cX5_command 89 = .ok (.aload_n 0, 1) := by decide +kernel
theorem dX5_command_90 : decode cX5_command 90 = .ok (.dup, 1) := by decide +kernel
theorem dX5_command_91 : decode cX5_command 91 = .ok (.getfield 41, 3) := by decide +kernel
theorem dX5_command_94 : decode cX5_command 94 = .ok (.iconst 1, 1) := by decide +kernel
theorem dX5_command_95 : decode cX5_command 95 = .ok (.iadd, 1) := by decide +kernel
theorem dX5_command_96 : decode cX5_command 96 = .ok (.putfield 41, 3) := by decide +kernel
theorem dX5_command_99 : decode cX5_command 99 = .ok (.iconst 0, 1) := by decide +kernel
theorem dX5_command_100 : decode cX5_command 100 = .ok (.istore_n 3, 1) := by decide +kernel
theorem dX5_command_101 : decode cX5_command 101 = .ok (.iload_n 3, 1) := by decide +kernel
theorem dX5_command_102 : decode cX5_command 102 = .ok (.iload_n 2, 1) := by decide +kernel
theorem dX5_command_103 : decode cX5_command 103 = .ok (.if_icmp .ge 69, 3) := by decide +kernel
theorem dX5_command_106 : decode cX5_command 106 = .ok (.aload_n 0, 1) := by decide +kernel
theorem dX5_command_107 : decode cX5_command 107 = .ok (.getfield 44, 3) := by decide +kernel
theorem dX5_command_110 : decode cX5_command 110 = .ok (.ifCond .ne 62, 3) := by decide +kernel
theorem dX5_command_113 : decode cX5_command 113 = .ok (.aload_n 0, 1) := by decide +kernel
theorem dX5_command_114 : decode cX5_command 114 = .ok (.dup, 1) := by decide +kernel
theorem dX5_command_115 : decode cX5_command 115 = .ok (.getfield 44, 3) := by decide +kernel
theorem dX5_command_118 : decode cX5_command 118 = .ok (.aload_n 0, 1) := by decide +kernel
theorem dX5_command_119 : decode cX5_command 119 = .ok (.invokevirtual 214, 3) := by decide +kernel
theorem dX5_command_122 : decode cX5_command 122 = .ok (.bipush 32, 2) := by decide +kernel
theorem dX5_command_124 : decode cX5_command 124 = .ok (.if_icmp .eq 7, 3) := by decide +kernel
theorem dX5_command_127 : decode cX5_command 127 = .ok (.iconst 1, 1) := by decide +kernel
theorem dX5_command_128 : decode cX5_command 128 = .ok (.goto 4, 3) := by decide +kernel
theorem dX5_command_131 : decode cX5_command 131 = .ok (.iconst 0, 1) := by decide +kernel
theorem dX5_command_132 : decode cX5_command 132 = .ok (.ior, 1) := by decide +kernel
theorem dX5_command_133 : decode cX5_command 133 = .ok (.putfield 44, 3) := by decide +kernel
theorem dX5_command_136 : decode cX5_command 136 = .ok (.aload_n 0, 1) := by decide +kernel
theorem dX5_command_137 : decode cX5_command 137 = .ok (.getfield 44, 3) := by decide +kernel
theorem dX5_command_140 : decode cX5_command 140 = .ok (.ifCond .eq 6, 3) := by decide +kernel
theorem dX5_command_143 : decode cX5_command 143 = .ok (.goto 23, 3) := by decide +kernel
theorem dX5_command_146 : decode cX5_command 146 = .ok (.aload_n 0, 1) := by decide +kernel
theorem dX5_command_147 : decode cX5_command 147 = .ok (.dup, 1) := by decide +kernel
theorem dX5_command_148 : decode cX5_command 148 = .ok (.getfield 41, 3) := by decide +kernel
theorem dX5_command_151 : decode cX5_command 151 = .ok (.iconst 1, 1) := by decide +kernel
theorem dX5_command_152 : decode cX5_command 152 = .ok (.iadd, 1) := by decide +kernel
theorem dX5_command_153 : decode cX5_command 153 = .ok (.putfield 41, 3) := by decide +kernel
theorem dX5_command_156 : decode cX5_command 156 = .ok (.aload_n 0, 1) := by decide +kernel
theorem dX5_command_157 : decode cX5_command 157 = .ok (.getfield 35, 3) := by decide +kernel
theorem dX5_command_160 : decode cX5_command 160 = .ok (.iload_n 3, 1) := by decide +kernel
theorem dX5_command_161 : decode cX5_command 161 = .ok (.aload_n 0, 1) := by decide +kernel
theorem dX5_command_162 : decode cX5_command 162 = .ok (.invokevirtual 218, 3) := by decide +kernel
theorem dX5_command_165 : decode cX5_command 165 = .ok (.iastore, 1) := by decide +kernel
theorem dX5_command_166 : decode cX5_command 166 = .ok (.iinc 3 1, 3) := by decide +kernel
theorem dX5_command_169 : decode cX5_command 169 = .ok (.goto (-68), 3) := by decide +kernel
theorem dX5_command_172 : decode cX5_command 172 = .ok (.iload_n 1, 1) := by decide +kernel
theorem dX5_command_173 : decode cX5_command 173 = .ok (.ireturn, 1) := by decide +kernel
theorem dX5_does_0 : decode cX5_does 0 = .ok (.iload_n 1, 1) := by decide +kernel
theorem dX5_does_1 : decode cX5_does 1 = .ok (.tableswitch 175 99 114 #[136, 164, 175, 175, 175, 113, 96, 175, 175, 175, 175, 175, 79, 175, 175, 153], 79) := by decide +kernel
theorem dX5_does_80 : decode cX5_does 80 = .ok (.aload_n 0, 1) := by decide +kernel
theorem dX5_does_81 : decode cX5_does 81 = .ok (.aload_n 0, 1) := by decide +kernel
theorem dX5_does_82 : decode cX5_does 82 = .ok (.getfield 35, 3) := by decide +kernel
theorem dX5_does_85 : decode cX5_does 85 = .ok (.iconst 0, 1) := by decide +kernel
theorem dX5_does_86 : decode cX5_does 86 = .ok (.iaload, 1) := by decide +kernel
theorem dX5_does_87 : decode cX5_does 87 = .ok (.aload_n 0, 1) := by decide +kernel
theorem dX5_does_88 : decode cX5_does 88 = .ok (.getfield 35, 3) := by decide +kernel
theorem dX5_does_91 : decode cX5_does 91 = .ok (.iconst 1, 1) := by decide +kernel
theorem dX5_does_92 : decode cX5_does 92 = .ok (.iaload, 1) := by decide +kernel
theorem dX5_does_93 : decode cX5_does 93 = .ok (.invokevirtual 153, 3) := by decide +kernel
theorem dX5_does_96 : decode cX5_does 96 = .ok (.ireturn, 1) := by decide +kernel
theorem dX5_does_97 : decode cX5_does 97 = .ok (.aload_n 0, 1) := by decide +kernel
theorem dX5_does_98 : decode cX5_does 98 = .ok (.aload_n 0, 1) := by decide +kernel
theorem dX5_does_99 : decode cX5_does 99 = .ok (.getfield 35, 3) := by decide +kernel
theorem dX5_does_102 : decode cX5_does 102 = .ok (.iconst 0, 1) := by decide +kernel
theorem dX5_does_103 : decode cX5_does 103 = .ok (.iaload, 1) := by decide +kernel
theorem dX5_does_104 : decode cX5_does 104 = .ok (.aload_n 0, 1) := by decide +kernel
theorem dX5_does_105 : decode cX5_does 105 = .ok (.getfield 35, 3) := by decide +kernel
theorem dX5_does_108 : decode cX5_does 108 = .ok (.iconst 1, 1) := by decide +kernel
theorem dX5_does_109 : decode cX5_does 109 = .ok (.iaload, 1) := by decide +kernel
theorem dX5_does_110 : decode cX5_does 110 = .ok (.invokevirtual 156, 3) := by decide +kernel
theorem dX5_does_113 : decode cX5_does 113 = .ok (.ireturn, 1) := by decide +kernel
theorem dX5_does_114 : decode cX5_does 114 = .ok (.aload_n 0, 1) := by decide +kernel
theorem dX5_does_115 : decode cX5_does 115 = .ok (.aload_n 0, 1) := by decide +kernel
theorem dX5_does_116 : decode cX5_does 116 = .ok (.getfield 35, 3) := by decide +kernel
theorem dX5_does_119 : decode cX5_does 119 = .ok (.iconst 0, 1) := by decide +kernel
theorem dX5_does_120 : decode cX5_does 120 = .ok (.iaload, 1) := by decide +kernel
theorem dX5_does_121 : decode cX5_does 121 = .ok (.aload_n 0, 1) := by decide +kernel
theorem dX5_does_122 : decode cX5_does 122 = .ok (.getfield 35, 3) := by decide +kernel
theorem dX5_does_125 : decode cX5_does 125 = .ok (.iconst 1, 1) := by decide +kernel
theorem dX5_does_126 : decode cX5_does 126 = .ok (.iaload, 1) := by decide +kernel
theorem dX5_does_127 : decode cX5_does 127 = .ok (.aload_n 0, 1) := by decide +kernel
theorem dX5_does_128 : decode cX5_does 128 = .ok (.getfield 35, 3) := by decide +kernel
theorem dX5_does_131 : decode cX5_does 131 = .ok (.iconst 2, 1) := by decide +kernel
theorem dX5_does_132 : decode cX5_does 132 = .ok (.iaload, 1) := by decide +kernel
theorem dX5_does_133 : decode cX5_does 133 = .ok (.invokevirtual 188, 3) := by decide +kernel
theorem dX5_does_136 : decode cX5_does 136 = .ok (.ireturn, 1) := by decide +kernel
theorem dX5_does_137 : decode cX5_does 137 = .ok (.aload_n 0, 1) := by decide +kernel
theorem dX5_does_138 : decode cX5_does 138 = .ok (.aload_n 0, 1) := by decide +kernel
theorem dX5_does_139 : decode cX5_does 139 = .ok (.getfield 35, 3) := by decide +kernel
theorem dX5_does_142 : decode cX5_does 142 = .ok (.iconst 0, 1) := by decide +kernel
theorem dX5_does_143 : decode cX5_does 143 = .ok (.iaload, 1) := by decide +kernel
theorem dX5_does_144 : decode cX5_does 144 = .ok (.aload_n 0, 1) := by decide +kernel
theorem dX5_does_145 : decode cX5_does 145 = .ok (.getfield 35, 3) := by decide +kernel
theorem dX5_does_148 : decode cX5_does 148 = .ok (.iconst 1, 1) := by decide +kernel
theorem dX5_does_149 : decode cX5_does 149 = .ok (.iaload, 1) := by decide +kernel
theorem dX5_does_150 : decode cX5_does 150 = .ok (.invokevirtual 195, 3) := by decide +kernel
theorem dX5_does_153 : decode cX5_does 153 = .ok (.ireturn, 1) := by decide +kernel
theorem dX5_does_154 : decode cX5_does 154 = .ok (.aload_n 0, 1) := by decide +kernel
theorem dX5_does_155 : decode cX5_does 155 = .ok (.aload_n 0, 1) := by decide +kernel
theorem dX5_does_156 : decode cX5_does 156 = .ok (.getfield 35, 3) := by decide +kernel
theorem dX5_does_159 : decode cX5_does 159 = .ok (.iconst 0, 1) := by decide +kernel
theorem dX5_does_160 : decode cX5_does 160 = .ok (.iaload, 1) := by decide +kernel
theorem dX5_does_161 : decode cX5_does 161 = .ok (.invokevirtual 165, 3) := by decide +kernel
theorem dX5_does_164 : decode cX5_does 164 = .ok (.ireturn, 1) := by decide +kernel
theorem dX5_does_165 : decode cX5_does 165 = .ok (.aload_n 0, 1) := by decide +kernel
theorem dX5_does_166 : decode cX5_does 166 = .ok (.aload_n 0, 1) := by decide +kernel
theorem dX5_does_167 : decode cX5_does 167 = .ok (.getfield 35, 3) := by decide +kernel
theorem dX5_does_170 : decode cX5_does 170 = .ok (.iconst 0, 1) := by decide +kernel
theorem dX5_does_171 : decode cX5_does 171 = .ok (.iaload, 1) := by decide +kernel
theorem dX5_does_172 : decode cX5_does 172 = .ok (.invokevirtual 138, 3) := by decide +kernel
theorem dX5_does_175 : decode cX5_does 175 = .ok (.ireturn, 1) := by decide +kernel
theorem dX5_does_176 : decode cX5_does 176 = .ok (.aload_n 0, 1) := by decide +kernel
theorem dX5_does_177 : decode cX5_does 177 = .ok (.iconst 3, 1) := by decide +kernel
theorem dX5_does_178 : decode cX5_does 178 = .ok (.aload_n 0, 1) := by decide +kernel
theorem dX5_does_179 : decode cX5_does 179 = .ok (.getfield 35, 3) := by decide +kernel
theorem dX5_does_182 : decode cX5_does 182 = .ok (.iconst 0, 1) := by decide +kernel
theorem dX5_does_183 : decode cX5_does 183 = .ok (.iaload, 1) := by decide +kernel
theorem dX5_does_184 : decode cX5_does 184 = .ok (.aload_n 0, 1) := by decide +kernel
theorem dX5_does_185 : decode cX5_does 185 = .ok (.getfield 35, 3) := by decide +kernel
theorem dX5_does_188 : decode cX5_does 188 = .ok (.iconst 1, 1) := by decide +kernel
theorem dX5_does_189 : decode cX5_does 189 = .ok (.iaload, 1) := by decide +kernel
theorem dX5_does_190 : decode cX5_does 190 = .ok (.invokevirtual 210, 3) := by decide +kernel
theorem dX5_does_193 : decode cX5_does 193 = .ok (.ireturn, 1) := by decide +kernel
theorem dX5_execute_0 : decode cX5_execute 0 = .ok (.aload_n 0, 1) := by decide +kernel
theorem dX5_execute_1 : decode cX5_execute 1 = .ok (.iconst 0, 1) := by decide +kernel
theorem dX5_execute_2 : decode cX5_execute 2 = .ok (.putfield 41, 3) := by decide +kernel
theorem dX5_execute_5 : decode cX5_execute 5 = .ok (.aload_n 0, 1) := by decide +kernel
theorem dX5_execute_6 : decode cX5_execute 6 = .ok (.iconst 0, 1) := by decide +kernel
theorem dX5_execute_7 : decode cX5_execute 7 = .ok (.putfield 44, 3) := by decide +kernel
theorem dX5_execute_10 : decode cX5_execute 10 = .ok (.aload_n 0, 1) := by decide +kernel
theorem dX5_execute_11 : decode cX5_execute 11 = .ok (.invokevirtual 221, 3) := by decide +kernel
theorem dX5_execute_14 : decode cX5_execute 14 = .ok (.istore_n 1, 1) := by decide +kernel
theorem dX5_execute_15 : decode cX5_execute 15 = .ok (.aload_n 0, 1) := by decide +kernel
theorem dX5_execute_16 : decode cX5_execute 16 = .ok (.invokevirtual 214, 3) := by decide +kernel
theorem dX5_execute_19 : decode cX5_execute 19 = .ok (.bipush 59, 2) := by decide +kernel
theorem dX5_execute_21 : decode cX5_execute 21 = .ok (.if_icmp .ne 21, 3) := by decide +kernel
theorem dX5_execute_24 : decode cX5_execute 24 = .ok (.aload_n 0, 1) := by decide +kernel
theorem dX5_execute_25 : decode cX5_execute 25 = .ok (.dup, 1) := by decide +kernel
theorem dX5_execute_26 : decode cX5_execute 26 = .ok (.getfield 41, 3) := by decide +kernel
theorem dX5_execute_29 : decode cX5_execute 29 = .ok (.iconst 1, 1) := by decide +kernel
theorem dX5_execute_30 : decode cX5_execute 30 = .ok (.iadd, 1) := by decide +kernel
theorem dX5_execute_31 : decode cX5_execute 31 = .ok (.putfield 41, 3) := by decide +kernel
theorem dX5_execute_34 : decode cX5_execute 34 = .ok (.aload_n 0, 1) := by decide +kernel
theorem dX5_execute_35 : decode cX5_execute 35 = .ok (.invokevirtual 221, 3) := by decide +kernel
theorem dX5_execute_38 : decode cX5_execute 38 = .ok (.istore_n 1, 1) := by decide +kernel
theorem dX5_execute_39 : decode cX5_execute 39 = .ok (.goto (-24), 3) := by decide +kernel
theorem dX5_execute_42 : decode cX5_execute 42 = .ok (.aload_n 0, 1) := by decide +kernel
theorem dX5_execute_43 : decode cX5_execute 43 = .ok (.getfield 44, 3) := by decide +kernel
theorem dX5_execute_46 : decode cX5_execute 46 = .ok (.ifCond .ne 14, 3) := by decide +kernel
theorem dX5_execute_49 : decode cX5_execute 49 = .ok (.aload_n 0, 1) := by decide +kernel
theorem dX5_execute_50 : decode cX5_execute 50 = .ok (.getfield 41, 3) := by decide +kernel
theorem dX5_execute_53 : decode cX5_execute 53 = .ok (.aload_n 0, 1) := by decide +kernel
theorem dX5_execute_54 : decode cX5_execute 54 = .ok (.getfield 38, 3) := by decide +kernel
theorem dX5_execute_57 : decode cX5_execute 57 = .ok (.if_icmp .ge 17, 3) := by decide +kernel
theorem dX5_execute_60 : decode cX5_execute 60 = .ok (.aload_n 0, 1) := by decide +kernel
theorem dX5_execute_61 : decode cX5_execute 61 = .ok (.iconst 0, 1) := by decide +kernel
theorem dX5_execute_62 : decode cX5_execute 62 = .ok (.putfield 38, 3) := by decide +kernel
theorem dX5_execute_65 : decode cX5_execute 65 = .ok (.sipush (-200), 3) := by decide +kernel
theorem dX5_execute_68 : decode cX5_execute 68 = .ok (.aload_n 0, 1) := by decide +kernel
theorem dX5_execute_69 : decode cX5_execute 69 = .ok (.getfield 41, 3) := by decide +kernel
theorem dX5_execute_72 : decode cX5_execute 72 = .ok (.isub, 1) := by decide +kernel
theorem dX5_execute_73 : decode cX5_execute 73 = .ok (.ireturn, 1) := by decide +kernel
theorem dX5_execute_74 : decode cX5_execute 74 = .ok (.aload_n 0, 1) := by decide +kernel
theorem dX5_execute_75 : decode cX5_execute 75 = .ok (.invokevirtual 96, 3) := by decide +kernel
theorem dX5_execute_78 : decode cX5_execute 78 = .ok (.aload_n 0, 1) := by decide +kernel
theorem dX5_execute_79 : decode cX5_execute 79 = .ok (.iconst 0, 1) := by decide +kernel
theorem dX5_execute_80 : decode cX5_execute 80 = .ok (.putfield 41, 3) := by decide +kernel
theorem dX5_execute_83 : decode cX5_execute 83 = .ok (.iconst 0, 1) := by decide +kernel
theorem dX5_execute_84 : decode cX5_execute 84 = .ok (.istore_n 2, 1) := by decide +kernel
theorem dX5_execute_85 : decode cX5_execute 85 = .ok (.aload_n 0, 1) := by decide +kernel
theorem dX5_execute_86 : decode cX5_execute 86 = .ok (.getfield 41, 3) := by decide +kernel
theorem dX5_execute_89 : decode cX5_execute 89 = .ok (.aload_n 0, 1) := by decide +kernel
theorem dX5_execute_90 : decode cX5_execute 90 = .ok (.getfield 38, 3) := by decide +kernel
theorem dX5_execute_93 : decode cX5_execute 93 = .ok (.if_icmp .ge 60, 3) := by decide +kernel
theorem dX5_execute_96 : decode cX5_execute 96 = .ok (.iload_n 2, 1) := by decide +kernel
theorem dX5_execute_97 : decode cX5_execute 97 = .ok (.ifCond .le 13, 3) := by decide +kernel
theorem dX5_execute_100 : decode cX5_execute 100 = .ok (.aload_n 0, 1) := by decide +kernel
theorem dX5_execute_101 : decode cX5_execute 101 = .ok (.dup, 1) := by decide +kernel
theorem dX5_execute_102 : decode cX5_execute 102 = .ok (.getfield 41, 3) := by decide +kernel
theorem dX5_execute_105 : decode cX5_execute 105 = .ok (.iconst 1, 1) := by decide +kernel
theorem dX5_execute_106 : decode cX5_execute 106 = .ok (.iadd, 1) := by decide +kernel
theorem dX5_execute_107 : decode cX5_execute 107 = .ok (.putfield 41, 3) := by decide +kernel
theorem dX5_execute_110 : decode cX5_execute 110 = .ok (.aload_n 0, 1) := by decide +kernel
theorem dX5_execute_111 : decode cX5_execute 111 = .ok (.invokevirtual 221, 3) := by decide +kernel
theorem dX5_execute_114 : decode cX5_execute 114 = .ok (.istore_n 1, 1) := by decide +kernel
theorem dX5_execute_115 : decode cX5_execute 115 = .ok (.aload_n 0, 1) := by decide +kernel
theorem dX5_execute_116 : decode cX5_execute 116 = .ok (.iload_n 1, 1) := by decide +kernel
theorem dX5_execute_117 : decode cX5_execute 117 = .ok (.invokevirtual 224, 3) := by decide +kernel
theorem dX5_execute_120 : decode cX5_execute 120 = .ok (.ifCond .ge 27, 3) := by decide +kernel
theorem dX5_execute_123 : decode cX5_execute 123 = .ok (.aload_n 0, 1) := by decide +kernel
theorem dX5_execute_124 : decode cX5_execute 124 = .ok (.getfield 15, 3) := by decide +kernel
theorem dX5_execute_127 : decode cX5_execute 127 = .ok (.iconst 0, 1) := by decide +kernel
theorem dX5_execute_128 : decode cX5_execute 128 = .ok (.aload_n 0, 1) := by decide +kernel
theorem dX5_execute_129 : decode cX5_execute 129 = .ok (.getfield 11, 3) := by decide +kernel
theorem dX5_execute_132 : decode cX5_execute 132 = .ok (.iconst 0, 1) := by decide +kernel
theorem dX5_execute_133 : decode cX5_execute 133 = .ok (.invokestatic 47, 3) := by decide +kernel
theorem dX5_execute_136 : decode cX5_execute 136 = .ok (.aload_n 0, 1) := by decide +kernel
theorem dX5_execute_137 : decode cX5_execute 137 = .ok (.iconst 0, 1) := by decide +kernel
theorem dX5_execute_138 : decode cX5_execute 138 = .ok (.putfield 38, 3) := by decide +kernel
theorem dX5_execute_141 : decode cX5_execute 141 = .ok (.sipush (-300), 3) := by decide +kernel
theorem dX5_execute_144 : decode cX5_execute 144 = .ok (.iload_n 2, 1) := by decide +kernel
theorem dX5_execute_145 : decode cX5_execute 145 = .ok (.isub, 1) := by decide +kernel
theorem dX5_execute_146 : decode cX5_execute 146 = .ok (.ireturn, 1) := by decide +kernel
theorem dX5_execute_147 : decode cX5_execute 147 = .ok (.iinc 2 1, 3) := by decide +kernel
theorem dX5_execute_150 : decode cX5_execute 150 = .ok (.goto (-65), 3) := by decide +kernel
theorem dX5_execute_153 : decode cX5_execute 153 = .ok (.aload_n 0, 1) := by decide +kernel
theorem dX5_execute_154 : decode cX5_execute 154 = .ok (.iconst 0, 1) := by decide +kernel
theorem dX5_execute_155 : decode cX5_execute 155 = .ok (.putfield 38, 3) := by decide +kernel
theorem dX5_execute_158 : decode cX5_execute 158 = .ok (.aload_n 0, 1) := by decide +kernel
theorem dX5_execute_159 : decode cX5_execute 159 = .ok (.iload_n 2, 1) := by decide +kernel
theorem dX5_execute_160 : decode cX5_execute 160 = .ok (.invokevirtual 103, 3) := by decide +kernel
theorem dX5_execute_163 : decode cX5_execute 163 = .ok (.ireturn, 1) := by decide +kernel
theorem dX5_save_0 : decode cX5_save 0 = .ok (.aload_n 0, 1) := by decide +kernel
theorem dX5_save_1 : decode cX5_save 1 = .ok (.getfield 11, 3) := by decide +kernel
theorem dX5_save_4 : decode cX5_save 4 = .ok (.iconst 0, 1) := by decide +kernel
theorem dX5_save_5 : decode cX5_save 5 = .ok (.aload_n 0, 1) := by decide +kernel
theorem dX5_save_6 : decode cX5_save 6 = .ok (.getfield 18, 3) := by decide +kernel
theorem dX5_save_9 : decode cX5_save 9 = .ok (.iconst 0, 1) := by decide +kernel
theorem dX5_save_10 : decode cX5_save 10 = .ok (.invokestatic 47, 3) := by decide +kernel
theorem dX5_save_13 : decode cX5_save 13 = .ok (.aload_n 0, 1) := by decide +kernel
theorem dX5_save_14 : decode cX5_save 14 = .ok (.iconst 1, 1) := by decide +kernel
theorem dX5_save_15 : decode cX5_save 15 = .ok (.putfield 28, 3) := by decide +kernel
theorem dX5_save_18 : decode cX5_save 18 = .ok (.aload_n 0, 1) := by decide +kernel
theorem dX5_save_19 : decode cX5_save 19 = .ok (.getfield 11, 3) := by decide +kernel
theorem dX5_save_22 : decode cX5_save 22 = .ok (.iconst 0, 1) := by decide +kernel
theorem dX5_save_23 : decode cX5_save 23 = .ok (.iaload, 1) := by decide +kernel
theorem dX5_save_24 : decode cX5_save 24 = .ok (.ireturn, 1) := by decide +kernel
theorem dX5_restore_0 : decode cX5_restore 0 = .ok (.aload_n 0, 1) := by decide +kernel
theorem dX5_restore_1 : decode cX5_restore 1 = .ok (.getfield 28, 3) := by decide +kernel
theorem dX5_restore_4 : decode cX5_restore 4 = .ok (.ifCond .ne 6, 3) := by decide +kernel
theorem dX5_restore_7 : decode cX5_restore 7 = .ok (.bipush (-2), 2) := by decide +kernel
theorem dX5_restore_9 : decode cX5_restore 9 = .ok (.ireturn, 1) := by decide +kernel
theorem dX5_restore_10 : decode cX5_restore 10 = .ok (.aload_n 0, 1) := by decide +kernel
theorem dX5_restore_11 : decode cX5_restore 11 = .ok (.invokevirtual 96, 3) := by decide +kernel
theorem dX5_restore_14 : decode cX5_restore 14 = .ok (.aload_n 0, 1) := by decide +kernel
theorem dX5_restore_15 : decode cX5_restore 15 = .ok (.getfield 18, 3) := by decide +kernel
theorem dX5_restore_18 : decode cX5_restore 18 = .ok (.iconst 0, 1) := by decide +kernel
theorem dX5_restore_19 : decode cX5_restore 19 = .ok (.aload_n 0, 1) := by decide +kernel
theorem dX5_restore_20 : decode cX5_restore 20 = .ok (.getfield 11, 3) := by decide +kernel
theorem dX5_restore_23 : decode cX5_restore 23 = .ok (.iconst 0, 1) := by decide +kernel
theorem dX5_restore_24 : decode cX5_restore 24 = .ok (.invokestatic 47, 3) := by decide +kernel
theorem dX5_restore_27 : decode cX5_restore 27 = .ok (.aload_n 0, 1) := by decide +kernel
theorem dX5_restore_28 : decode cX5_restore 28 = .ok (.aload_n 0, 1) := by decide +kernel
theorem dX5_restore_29 : decode cX5_restore 29 = .ok (.getfield 11, 3) := by decide +kernel
theorem dX5_restore_32 : decode cX5_restore 32 = .ok (.iconst 0, 1) := by decide +kernel
theorem dX5_restore_33 : decode cX5_restore 33 = .ok (.iaload, 1) := by decide +kernel
theorem dX5_restore_34 : decode cX5_restore 34 = .ok (.invokevirtual 103, 3) := by decide +kernel
theorem dX5_restore_37 : decode cX5_restore 37 = .ok (.ireturn, 1) := by decide +kernel
theorem dX5_undo_0 : decode cX5_undo 0 = .ok (.aload_n 0, 1) := by decide +kernel
theorem dX5_undo_1 : decode cX5_undo 1 = .ok (.getfield 24, 3) := by decide +kernel
theorem dX5_undo_4 : decode cX5_undo 4 = .ok (.ifCond .ne 6, 3) := by decide +kernel
theorem dX5_undo_7 : decode cX5_undo 7 = .ok (.bipush (-2), 2) := by decide +kernel
theorem dX5_undo_9 : decode cX5_undo 9 = .ok (.ireturn, 1) := by decide +kernel
theorem dX5_undo_10 : decode cX5_undo 10 = .ok (.aload_n 0, 1) := by decide +kernel
theorem dX5_undo_11 : decode cX5_undo 11 = .ok (.dup, 1) := by decide +kernel
theorem dX5_undo_12 : decode cX5_undo 12 = .ok (.getfield 24, 3) := by decide +kernel
theorem dX5_undo_15 : decode cX5_undo 15 = .ok (.iconst 1, 1) := by decide +kernel
theorem dX5_undo_16 : decode cX5_undo 16 = .ok (.isub, 1) := by decide +kernel
theorem dX5_undo_17 : decode cX5_undo 17 = .ok (.putfield 24, 3) := by decide +kernel
theorem dX5_undo_20 : decode cX5_undo 20 = .ok (.aload_n 0, 1) := by decide +kernel
theorem dX5_undo_21 : decode cX5_undo 21 = .ok (.getfield 21, 3) := by decide +kernel
theorem dX5_undo_24 : decode cX5_undo 24 = .ok (.sipush 681, 3) := by decide +kernel
theorem dX5_undo_27 : decode cX5_undo 27 = .ok (.aload_n 0, 1) := by decide +kernel
theorem dX5_undo_28 : decode cX5_undo 28 = .ok (.getfield 24, 3) := by decide +kernel
theorem dX5_undo_31 : decode cX5_undo 31 = .ok (.imul, 1) := by decide +kernel
theorem dX5_undo_32 : decode cX5_undo 32 = .ok (.aload_n 0, 1) := by decide +kernel
theorem dX5_undo_33 : decode cX5_undo 33 = .ok (.getfield 11, 3) := by decide +kernel
theorem dX5_undo_36 : decode cX5_undo 36 = .ok (.iconst 0, 1) := by decide +kernel
theorem dX5_undo_37 : decode cX5_undo 37 = .ok (.invokestatic 47, 3) := by decide +kernel
theorem dX5_undo_40 : decode cX5_undo 40 = .ok (.aload_n 0, 1) := by decide +kernel
theorem dX5_undo_41 : decode cX5_undo 41 = .ok (.getfield 24, 3) := by decide +kernel
theorem dX5_undo_44 : decode cX5_undo 44 = .ok (.ireturn, 1) := by decide +kernel
end
section
theorem dL_law_0 : decode cL_law 0 = .ok (.new 7, 3) := by decide +kernel
theorem dL_law_3 : decode cL_law 3 = .ok (.dup, 1) := by decide +kernel
theorem dL_law_4 : decode cL_law 4 = .ok (.invokespecial 9, 3) := by decide +kernel
theorem dL_law_7 : decode cL_law 7 = .ok (.astore_n 1, 1) := by decide +kernel
theorem dL_law_8 : decode cL_law 8 = .ok (.new 10, 3) := by decide +kernel
theorem dL_law_11 : decode cL_law 11 = .ok (.dup, 1) := by decide +kernel
theorem dL_law_12 : decode cL_law 12 = .ok (.invokespecial 12, 3) := by decide +kernel
theorem dL_law_15 : decode cL_law 15 = .ok (.astore_n 2, 1) := by decide +kernel
theorem dL_law_16 : decode cL_law 16 = .ok (.iconst 0, 1) := by decide +kernel
theorem dL_law_17 : decode cL_law 17 = .ok (.istore_n 3, 1) := by decide +kernel
theorem dL_law_18 : decode cL_law 18 = .ok (.iload_n 3, 1) := by decide +kernel
theorem dL_law_19 : decode cL_law 19 = .ok (.aload_n 0, 1) := by decide +kernel
theorem dL_law_20 : decode cL_law 20 = .ok (.arraylength, 1) := by decide +kernel
theorem dL_law_21 : decode cL_law 21 = .ok (.iconst 4, 1) := by decide +kernel
theorem dL_law_22 : decode cL_law 22 = .ok (.isub, 1) := by decide +kernel
theorem dL_law_23 : decode cL_law 23 = .ok (.if_icmp .gt 1277, 3) := by decide +kernel
theorem dL_law_26 : decode cL_law 26 = .ok (.aload_n 0, 1) := by decide +kernel
theorem dL_law_27 : decode cL_law 27 = .ok (.iload_n 3, 1) := by decide +kernel
theorem dL_law_28 : decode cL_law 28 = .ok (.iaload, 1) := by decide +kernel
theorem dL_law_29 : decode cL_law 29 = .ok (.bipush 63, 2) := by decide +kernel
theorem dL_law_31 : decode cL_law 31 = .ok (.iand, 1) := by decide +kernel
theorem dL_law_32 : decode cL_law 32 = .ok (.tableswitch 1262 0 39 #[176, 209, 222, 255, 278, 327, 350, 383, 396, 419, 452, 485, 508, 531, 554, 597, 630, 673, 696, 719, 762, 795, 828, 841, 864, 887, 920, 953, 976, 1009, 1042, 1055, 1088, 1121, 1154, 1187, 1210, 1223, 1236, 1249], 176) := by decide +kernel
theorem dL_law_208 : decode cL_law 208 = .ok (.aload_n 1, 1) := by decide +kernel
theorem dL_law_209 : decode cL_law 209 = .ok (.aload_n 0, 1) := by decide +kernel
theorem dL_law_210 : decode cL_law 210 = .ok (.iload_n 3, 1) := by decide +kernel
theorem dL_law_211 : decode cL_law 211 = .ok (.iconst 1, 1) := by decide +kernel
theorem dL_law_212 : decode cL_law 212 = .ok (.iadd, 1) := by decide +kernel
theorem dL_law_213 : decode cL_law 213 = .ok (.iaload, 1) := by decide +kernel
theorem dL_law_214 : decode cL_law 214 = .ok (.aload_n 0, 1) := by decide +kernel
theorem dL_law_215 : decode cL_law 215 = .ok (.iload_n 3, 1) := by decide +kernel
theorem dL_law_216 : decode cL_law 216 = .ok (.iconst 2, 1) := by decide +kernel
theorem dL_law_217 : decode cL_law 217 = .ok (.iadd, 1) := by decide +kernel
theorem dL_law_218 : decode cL_law 218 = .ok (.iaload, 1) := by decide +kernel
theorem dL_law_219 : decode cL_law 219 = .ok (.invokevirtual 13, 3) := by decide +kernel
theorem dL_law_222 : decode cL_law 222 = .ok (.aload_n 2, 1) := by decide +kernel
theorem dL_law_223 : decode cL_law 223 = .ok (.aload_n 0, 1) := by decide +kernel
theorem dL_law_224 : decode cL_law 224 = .ok (.iload_n 3, 1) := by decide +kernel
theorem dL_law_225 : decode cL_law 225 = .ok (.iconst 1, 1) := by decide +kernel
theorem dL_law_226 : decode cL_law 226 = .ok (.iadd, 1) := by decide +kernel
theorem dL_law_227 : decode cL_law 227 = .ok (.iaload, 1) := by decide +kernel
theorem dL_law_228 : decode cL_law 228 = .ok (.aload_n 0, 1) := by decide +kernel
theorem dL_law_229 : decode cL_law 229 = .ok (.iload_n 3, 1) := by decide +kernel
theorem dL_law_230 : decode cL_law 230 = .ok (.iconst 2, 1) := by decide +kernel
theorem dL_law_231 : decode cL_law 231 = .ok (.iadd, 1) := by decide +kernel
theorem dL_law_232 : decode cL_law 232 = .ok (.iaload, 1) := by decide +kernel
theorem dL_law_233 : decode cL_law 233 = .ok (.invokevirtual 17, 3) := by decide +kernel
theorem dL_law_236 : decode cL_law 236 = .ok (.if_icmp .eq 1058, 3) := by decide +kernel
theorem dL_law_239 : decode cL_law 239 = .ok (.iconst 0, 1) := by decide +kernel
theorem dL_law_240 : decode cL_law 240 = .ok (.ireturn, 1) := by decide +kernel
theorem dL_law_241 : decode cL_law 241 = .ok (.aload_n 1, 1) := by decide +kernel
theorem dL_law_242 : decode cL_law 242 = .ok (.invokevirtual 18, 3) := by decide +kernel
theorem dL_law_245 : decode cL_law 245 = .ok (.aload_n 2, 1) := by decide +kernel
theorem dL_law_246 : decode cL_law 246 = .ok (.invokevirtual 22, 3) := by decide +kernel
theorem dL_law_249 : decode cL_law 249 = .ok (.if_icmp .eq 1045, 3) := by decide +kernel
theorem dL_law_252 : decode cL_law 252 = .ok (.iconst 0, 1) := by decide +kernel
theorem dL_law_253 : decode cL_law 253 = .ok (.ireturn, 1) := by decide +kernel
theorem dL_law_254 : decode cL_law 254 = .ok (.aload_n 1, 1) := by decide +kernel
theorem dL_law_255 : decode cL_law 255 = .ok (.aload_n 0, 1) := by decide +kernel
theorem dL_law_256 : decode cL_law 256 = .ok (.iload_n 3, 1) := by decide +kernel
theorem dL_law_257 : decode cL_law 257 = .ok (.iconst 1, 1) := by decide +kernel
theorem dL_law_258 : decode cL_law 258 = .ok (.iadd, 1) := by decide +kernel
theorem dL_law_259 : decode cL_law 259 = .ok (.iaload, 1) := by decide +kernel
theorem dL_law_260 : decode cL_law 260 = .ok (.aload_n 0, 1) := by decide +kernel
theorem dL_law_261 : decode cL_law 261 = .ok (.iload_n 3, 1) := by decide +kernel
theorem dL_law_262 : decode cL_law 262 = .ok (.iconst 2, 1) := by decide +kernel
theorem dL_law_263 : decode cL_law 263 = .ok (.iadd, 1) := by decide +kernel
theorem dL_law_264 : decode cL_law 264 = .ok (.iaload, 1) := by decide +kernel
theorem dL_law_265 : decode cL_law 265 = .ok (.invokevirtual 23, 3) := by decide +kernel
theorem dL_law_268 : decode cL_law 268 = .ok (.aload_n 2, 1) := by decide +kernel
theorem dL_law_269 : decode cL_law 269 = .ok (.aload_n 0, 1) := by decide +kernel
theorem dL_law_270 : decode cL_law 270 = .ok (.iload_n 3, 1) := by decide +kernel
theorem dL_law_271 : decode cL_law 271 = .ok (.iconst 1, 1) := by decide +kernel
theorem dL_law_272 : decode cL_law 272 = .ok (.iadd, 1) := by decide +kernel
theorem dL_law_273 : decode cL_law 273 = .ok (.iaload, 1) := by decide +kernel
theorem dL_law_274 : decode cL_law 274 = .ok (.aload_n 0, 1) := by decide +kernel
theorem dL_law_275 : decode cL_law 275 = .ok (.iload_n 3, 1) := by decide +kernel
theorem dL_law_276 : decode cL_law 276 = .ok (.iconst 2, 1) := by decide +kernel
theorem dL_law_277 : decode cL_law 277 = .ok (.iadd, 1) := by decide +kernel
theorem dL_law_278 : decode cL_law 278 = .ok (.iaload, 1) := by decide +kernel
theorem dL_law_279 : decode cL_law 279 = .ok (.invokevirtual 26, 3) := by decide +kernel
theorem dL_law_282 : decode cL_law 282 = .ok (.if_icmp .eq 1012, 3) := by decide +kernel
theorem dL_law_285 : decode cL_law 285 = .ok (.iconst 0, 1) := by decide +kernel
theorem dL_law_286 : decode cL_law 286 = .ok (.ireturn, 1) := by decide +kernel
theorem dL_law_287 : decode cL_law 287 = .ok (.aload_n 1, 1) := by decide +kernel
theorem dL_law_288 : decode cL_law 288 = .ok (.aload_n 0, 1) := by decide +kernel
theorem dL_law_289 : decode cL_law 289 = .ok (.iload_n 3, 1) := by decide +kernel
theorem dL_law_290 : decode cL_law 290 = .ok (.iconst 1, 1) := by decide +kernel
theorem dL_law_291 : decode cL_law 291 = .ok (.iadd, 1) := by decide +kernel
theorem dL_law_292 : decode cL_law 292 = .ok (.iaload, 1) := by decide +kernel
theorem dL_law_293 : decode cL_law 293 = .ok (.invokevirtual 27, 3) := by decide +kernel
theorem dL_law_296 : decode cL_law 296 = .ok (.aload_n 2, 1) := by decide +kernel
theorem dL_law_297 : decode cL_law 297 = .ok (.aload_n 0, 1) := by decide +kernel
theorem dL_law_298 : decode cL_law 298 = .ok (.iload_n 3, 1) := by decide +kernel
theorem dL_law_299 : decode cL_law 299 = .ok (.iconst 1, 1) := by decide +kernel
theorem dL_law_300 : decode cL_law 300 = .ok (.iadd, 1) := by decide +kernel
theorem dL_law_301 : decode cL_law 301 = .ok (.iaload, 1) := by decide +kernel
theorem dL_law_302 : decode cL_law 302 = .ok (.invokevirtual 31, 3) := by decide +kernel
theorem dL_law_305 : decode cL_law 305 = .ok (.if_icmp .eq 989, 3) := by decide +kernel
theorem dL_law_308 : decode cL_law 308 = .ok (.iconst 0, 1) := by decide +kernel
theorem dL_law_309 : decode cL_law 309 = .ok (.ireturn, 1) := by decide +kernel
theorem dL_law_310 : decode cL_law 310 = .ok (.aload_n 1, 1) := by decide +kernel
theorem dL_law_311 : decode cL_law 311 = .ok (.aload_n 0, 1) := by decide +kernel
theorem dL_law_312 : decode cL_law 312 = .ok (.iload_n 3, 1) := by decide +kernel
theorem dL_law_313 : decode cL_law 313 = .ok (.iconst 1, 1) := by decide +kernel
theorem dL_law_314 : decode cL_law 314 = .ok (.iadd, 1) := by decide +kernel
theorem dL_law_315 : decode cL_law 315 = .ok (.iaload, 1) := by decide +kernel
theorem dL_law_316 : decode cL_law 316 = .ok (.aload_n 0, 1) := by decide +kernel
theorem dL_law_317 : decode cL_law 317 = .ok (.iload_n 3, 1) := by decide +kernel
theorem dL_law_318 : decode cL_law 318 = .ok (.iconst 2, 1) := by decide +kernel
theorem dL_law_319 : decode cL_law 319 = .ok (.iadd, 1) := by decide +kernel
theorem dL_law_320 : decode cL_law 320 = .ok (.iaload, 1) := by decide +kernel
theorem dL_law_321 : decode cL_law 321 = .ok (.ifCond .eq 7, 3) := by decide +kernel
theorem dL_law_324 : decode cL_law 324 = .ok (.iconst 1, 1) := by decide +kernel
theorem dL_law_325 : decode cL_law 325 = .ok (.goto 4, 3) := by decide +kernel
theorem dL_law_328 : decode cL_law 328 = .ok (.iconst 0, 1) := by decide +kernel
theorem dL_law_329 : decode cL_law 329 = .ok (.invokevirtual 32, 3) := by decide +kernel
theorem dL_law_332 : decode cL_law 332 = .ok (.aload_n 2, 1) := by decide +kernel
theorem dL_law_333 : decode cL_law 333 = .ok (.aload_n 0, 1) := by decide +kernel
theorem dL_law_334 : decode cL_law 334 = .ok (.iload_n 3, 1) := by decide +kernel
theorem dL_law_335 : decode cL_law 335 = .ok (.iconst 1, 1) := by decide +kernel
theorem dL_law_336 : decode cL_law 336 = .ok (.iadd, 1) := by decide +kernel
theorem dL_law_337 : decode cL_law 337 = .ok (.iaload, 1) := by decide +kernel
theorem dL_law_338 : decode cL_law 338 = .ok (.aload_n 0, 1) := by decide +kernel
theorem dL_law_339 : decode cL_law 339 = .ok (.iload_n 3, 1) := by decide +kernel
theorem dL_law_340 : decode cL_law 340 = .ok (.iconst 2, 1) := by decide +kernel
theorem dL_law_341 : decode cL_law 341 = .ok (.iadd, 1) := by decide +kernel
theorem dL_law_342 : decode cL_law 342 = .ok (.iaload, 1) := by decide +kernel
theorem dL_law_343 : decode cL_law 343 = .ok (.ifCond .eq 7, 3) := by decide +kernel
theorem dL_law_346 : decode cL_law 346 = .ok (.iconst 1, 1) := by decide +kernel
theorem dL_law_347 : decode cL_law 347 = .ok (.goto 4, 3) := by decide +kernel
theorem dL_law_350 : decode cL_law 350 = .ok (.iconst 0, 1) := by decide +kernel
theorem dL_law_351 : decode cL_law 351 = .ok (.invokevirtual 36, 3) := by decide +kernel
theorem dL_law_354 : decode cL_law 354 = .ok (.if_icmp .eq 940, 3) := by decide +kernel
theorem dL_law_357 : decode cL_law 357 = .ok (.iconst 0, 1) := by decide +kernel
theorem dL_law_358 : decode cL_law 358 = .ok (.ireturn, 1) := by decide +kernel
theorem dL_law_359 : decode cL_law 359 = .ok (.aload_n 1, 1) := by decide +kernel
theorem dL_law_360 : decode cL_law 360 = .ok (.aload_n 0, 1) := by decide +kernel
theorem dL_law_361 : decode cL_law 361 = .ok (.iload_n 3, 1) := by decide +kernel
theorem dL_law_362 : decode cL_law 362 = .ok (.iconst 1, 1) := by decide +kernel
theorem dL_law_363 : decode cL_law 363 = .ok (.iadd, 1) := by decide +kernel
theorem dL_law_364 : decode cL_law 364 = .ok (.iaload, 1) := by decide +kernel
theorem dL_law_365 : decode cL_law 365 = .ok (.invokevirtual 37, 3) := by decide +kernel
theorem dL_law_368 : decode cL_law 368 = .ok (.aload_n 2, 1) := by decide +kernel
theorem dL_law_369 : decode cL_law 369 = .ok (.aload_n 0, 1) := by decide +kernel
theorem dL_law_370 : decode cL_law 370 = .ok (.iload_n 3, 1) := by decide +kernel
theorem dL_law_371 : decode cL_law 371 = .ok (.iconst 1, 1) := by decide +kernel
theorem dL_law_372 : decode cL_law 372 = .ok (.iadd, 1) := by decide +kernel
theorem dL_law_373 : decode cL_law 373 = .ok (.iaload, 1) := by decide +kernel
theorem dL_law_374 : decode cL_law 374 = .ok (.invokevirtual 40, 3) := by decide +kernel
theorem dL_law_377 : decode cL_law 377 = .ok (.if_icmp .eq 917, 3) := by decide +kernel
theorem dL_law_380 : decode cL_law 380 = .ok (.iconst 0, 1) := by decide +kernel
theorem dL_law_381 : decode cL_law 381 = .ok (.ireturn, 1) := by decide +kernel
theorem dL_law_382 : decode cL_law 382 = .ok (.aload_n 1, 1) := by decide +kernel
theorem dL_law_383 : decode cL_law 383 = .ok (.aload_n 0, 1) := by decide +kernel
theorem dL_law_384 : decode cL_law 384 = .ok (.iload_n 3, 1) := by decide +kernel
theorem dL_law_385 : decode cL_law 385 = .ok (.iconst 1, 1) := by decide +kernel
theorem dL_law_386 : decode cL_law 386 = .ok (.iadd, 1) := by decide +kernel
theorem dL_law_387 : decode cL_law 387 = .ok (.iaload, 1) := by decide +kernel
theorem dL_law_388 : decode cL_law 388 = .ok (.aload_n 0, 1) := by decide +kernel
theorem dL_law_389 : decode cL_law 389 = .ok (.iload_n 3, 1) := by decide +kernel
theorem dL_law_390 : decode cL_law 390 = .ok (.iconst 2, 1) := by decide +kernel
theorem dL_law_391 : decode cL_law 391 = .ok (.iadd, 1) := by decide +kernel
theorem dL_law_392 : decode cL_law 392 = .ok (.iaload, 1) := by decide +kernel
theorem dL_law_393 : decode cL_law 393 = .ok (.invokevirtual 41, 3) := by decide +kernel
theorem dL_law_396 : decode cL_law 396 = .ok (.aload_n 2, 1) := by decide +kernel
theorem dL_law_397 : decode cL_law 397 = .ok (.aload_n 0, 1) := by decide +kernel
theorem dL_law_398 : decode cL_law 398 = .ok (.iload_n 3, 1) := by decide +kernel
theorem dL_law_399 : decode cL_law 399 = .ok (.iconst 1, 1) := by decide +kernel
theorem dL_law_400 : decode cL_law 400 = .ok (.iadd, 1) := by decide +kernel
theorem dL_law_401 : decode cL_law 401 = .ok (.iaload, 1) := by decide +kernel
theorem dL_law_402 : decode cL_law 402 = .ok (.aload_n 0, 1) := by decide +kernel
theorem dL_law_403 : decode cL_law 403 = .ok (.iload_n 3, 1) := by decide +kernel
theorem dL_law_404 : decode cL_law 404 = .ok (.iconst 2, 1) := by decide +kernel
theorem dL_law_405 : decode cL_law 405 = .ok (.iadd, 1) := by decide +kernel
theorem dL_law_406 : decode cL_law 406 = .ok (.iaload, 1) := by decide +kernel
theorem dL_law_407 : decode cL_law 407 = .ok (.invokevirtual 44, 3) := by decide +kernel
theorem dL_law_410 : decode cL_law 410 = .ok (.if_icmp .eq 884, 3) := by decide +kernel
theorem dL_law_413 : decode cL_law 413 = .ok (.iconst 0, 1) := by decide +kernel
theorem dL_law_414 : decode cL_law 414 = .ok (.ireturn, 1) := by decide +kernel
theorem dL_law_415 : decode cL_law 415 = .ok (.aload_n 1, 1) := by decide +kernel
theorem dL_law_416 : decode cL_law 416 = .ok (.invokevirtual 45, 3) := by decide +kernel
theorem dL_law_419 : decode cL_law 419 = .ok (.aload_n 2, 1) := by decide +kernel
theorem dL_law_420 : decode cL_law 420 = .ok (.invokevirtual 48, 3) := by decide +kernel
theorem dL_law_423 : decode cL_law 423 = .ok (.if_icmp .eq 871, 3) := by decide +kernel
theorem dL_law_426 : decode cL_law 426 = .ok (.iconst 0, 1) := by decide +kernel
theorem dL_law_427 : decode cL_law 427 = .ok (.ireturn, 1) := by decide +kernel
theorem dL_law_428 : decode cL_law 428 = .ok (.aload_n 1, 1) := by decide +kernel
theorem dL_law_429 : decode cL_law 429 = .ok (.aload_n 0, 1) := by decide +kernel
theorem dL_law_430 : decode cL_law 430 = .ok (.iload_n 3, 1) := by decide +kernel
theorem dL_law_431 : decode cL_law 431 = .ok (.iconst 1, 1) := by decide +kernel
theorem dL_law_432 : decode cL_law 432 = .ok (.iadd, 1) := by decide +kernel
theorem dL_law_433 : decode cL_law 433 = .ok (.iaload, 1) := by decide +kernel
theorem dL_law_434 : decode cL_law 434 = .ok (.invokevirtual 49, 3) := by decide +kernel
theorem dL_law_437 : decode cL_law 437 = .ok (.aload_n 2, 1) := by decide +kernel
theorem dL_law_438 : decode cL_law 438 = .ok (.aload_n 0, 1) := by decide +kernel
theorem dL_law_439 : decode cL_law 439 = .ok (.iload_n 3, 1) := by decide +kernel
theorem dL_law_440 : decode cL_law 440 = .ok (.iconst 1, 1) := by decide +kernel
theorem dL_law_441 : decode cL_law 441 = .ok (.iadd, 1) := by decide +kernel
theorem dL_law_442 : decode cL_law 442 = .ok (.iaload, 1) := by decide +kernel
theorem dL_law_443 : decode cL_law 443 = .ok (.invokevirtual 52, 3) := by decide +kernel
theorem dL_law_446 : decode cL_law 446 = .ok (.if_icmp .eq 848, 3) := by decide +kernel
theorem dL_law_449 : decode cL_law 449 = .ok (.iconst 0, 1) := by decide +kernel
theorem dL_law_450 : decode cL_law 450 = .ok (.ireturn, 1) := by decide +kernel
theorem dL_law_451 : decode cL_law 451 = .ok (.aload_n 1, 1) := by decide +kernel
theorem dL_law_452 : decode cL_law 452 = .ok (.aload_n 0, 1) := by decide +kernel
theorem dL_law_453 : decode cL_law 453 = .ok (.iload_n 3, 1) := by decide +kernel
theorem dL_law_454 : decode cL_law 454 = .ok (.iconst 1, 1) := by decide +kernel
theorem dL_law_455 : decode cL_law 455 = .ok (.iadd, 1) := by decide +kernel
theorem dL_law_456 : decode cL_law 456 = .ok (.iaload, 1) := by decide +kernel
theorem dL_law_457 : decode cL_law 457 = .ok (.aload_n 0, 1) := by decide +kernel
theorem dL_law_458 : decode cL_law 458 = .ok (.iload_n 3, 1) := by decide +kernel
theorem dL_law_459 : decode cL_law 459 = .ok (.iconst 2, 1) := by decide +kernel
theorem dL_law_460 : decode cL_law 460 = .ok (.iadd, 1) := by decide +kernel
theorem dL_law_461 : decode cL_law 461 = .ok (.iaload, 1) := by decide +kernel
theorem dL_law_462 : decode cL_law 462 = .ok (.invokevirtual 53, 3) := by decide +kernel
theorem dL_law_465 : decode cL_law 465 = .ok (.aload_n 2, 1) := by decide +kernel
theorem dL_law_466 : decode cL_law 466 = .ok (.aload_n 0, 1) := by decide +kernel
theorem dL_law_467 : decode cL_law 467 = .ok (.iload_n 3, 1) := by decide +kernel
theorem dL_law_468 : decode cL_law 468 = .ok (.iconst 1, 1) := by decide +kernel
theorem dL_law_469 : decode cL_law 469 = .ok (.iadd, 1) := by decide +kernel
theorem dL_law_470 : decode cL_law 470 = .ok (.iaload, 1) := by decide +kernel
theorem dL_law_471 : decode cL_law 471 = .ok (.aload_n 0, 1) := by decide +kernel
theorem dL_law_472 : decode cL_law 472 = .ok (.iload_n 3, 1) := by decide +kernel
theorem dL_law_473 : decode cL_law 473 = .ok (.iconst 2, 1) := by decide +kernel
theorem dL_law_474 : decode cL_law 474 = .ok (.iadd, 1) := by decide +kernel
theorem dL_law_475 : decode cL_law 475 = .ok (.iaload, 1) := by decide +kernel
theorem dL_law_476 : decode cL_law 476 = .ok (.invokevirtual 56, 3) := by decide +kernel
theorem dL_law_479 : decode cL_law 479 = .ok (.if_icmp .eq 815, 3) := by decide +kernel
theorem dL_law_482 : decode cL_law 482 = .ok (.iconst 0, 1) := by decide +kernel
theorem dL_law_483 : decode cL_law 483 = .ok (.ireturn, 1) := by decide +kernel
theorem dL_law_484 : decode cL_law 484 = .ok (.aload_n 1, 1) := by decide +kernel
theorem dL_law_485 : decode cL_law 485 = .ok (.aload_n 0, 1) := by decide +kernel
theorem dL_law_486 : decode cL_law 486 = .ok (.iload_n 3, 1) := by decide +kernel
theorem dL_law_487 : decode cL_law 487 = .ok (.iconst 1, 1) := by decide +kernel
theorem dL_law_488 : decode cL_law 488 = .ok (.iadd, 1) := by decide +kernel
theorem dL_law_489 : decode cL_law 489 = .ok (.iaload, 1) := by decide +kernel
theorem dL_law_490 : decode cL_law 490 = .ok (.aload_n 0, 1) := by decide +kernel
theorem dL_law_491 : decode cL_law 491 = .ok (.iload_n 3, 1) := by decide +kernel
theorem dL_law_492 : decode cL_law 492 = .ok (.iconst 2, 1) := by decide +kernel
theorem dL_law_493 : decode cL_law 493 = .ok (.iadd, 1) := by decide +kernel
theorem dL_law_494 : decode cL_law 494 = .ok (.iaload, 1) := by decide +kernel
theorem dL_law_495 : decode cL_law 495 = .ok (.invokevirtual 57, 3) := by decide +kernel
theorem dL_law_498 : decode cL_law 498 = .ok (.aload_n 2, 1) := by decide +kernel
theorem dL_law_499 : decode cL_law 499 = .ok (.aload_n 0, 1) := by decide +kernel
theorem dL_law_500 : decode cL_law 500 = .ok (.iload_n 3, 1) := by decide +kernel
theorem dL_law_501 : decode cL_law 501 = .ok (.iconst 1, 1) := by decide +kernel
theorem dL_law_502 : decode cL_law 502 = .ok (.iadd, 1) := by decide +kernel
theorem dL_law_503 : decode cL_law 503 = .ok (.iaload, 1) := by decide +kernel
theorem dL_law_504 : decode cL_law 504 = .ok (.aload_n 0, 1) := by decide +kernel
theorem dL_law_505 : decode cL_law 505 = .ok (.iload_n 3, 1) := by decide +kernel
theorem dL_law_506 : decode cL_law 506 = .ok (.iconst 2, 1) := by decide +kernel
theorem dL_law_507 : decode cL_law 507 = .ok (.iadd, 1) := by decide +kernel
theorem dL_law_508 : decode cL_law 508 = .ok (.iaload, 1) := by decide +kernel
theorem dL_law_509 : decode cL_law 509 = .ok (.invokevirtual 60, 3) := by decide +kernel
theorem dL_law_512 : decode cL_law 512 = .ok (.if_icmp .eq 782, 3) := by decide +kernel
theorem dL_law_515 : decode cL_law 515 = .ok (.iconst 0, 1) := by decide +kernel
theorem dL_law_516 : decode cL_law 516 = .ok (.ireturn, 1) := by decide +kernel
theorem dL_law_517 : decode cL_law 517 = .ok (.aload_n 1, 1) := by decide +kernel
theorem dL_law_518 : decode cL_law 518 = .ok (.aload_n 0, 1) := by decide +kernel
theorem dL_law_519 : decode cL_law 519 = .ok (.iload_n 3, 1) := by decide +kernel
theorem dL_law_520 : decode cL_law 520 = .ok (.iconst 1, 1) := by decide +kernel
theorem dL_law_521 : decode cL_law 521 = .ok (.iadd, 1) := by decide +kernel
theorem dL_law_522 : decode cL_law 522 = .ok (.iaload, 1) := by decide +kernel
theorem dL_law_523 : decode cL_law 523 = .ok (.invokevirtual 61, 3) := by decide +kernel
theorem dL_law_526 : decode cL_law 526 = .ok (.aload_n 2, 1) := by decide +kernel
theorem dL_law_527 : decode cL_law 527 = .ok (.aload_n 0, 1) := by decide +kernel
theorem dL_law_528 : decode cL_law 528 = .ok (.iload_n 3, 1) := by decide +kernel
theorem dL_law_529 : decode cL_law 529 = .ok (.iconst 1, 1) := by decide +kernel
theorem dL_law_530 : decode cL_law 530 = .ok (.iadd, 1) := by decide +kernel
theorem dL_law_531 : decode cL_law 531 = .ok (.iaload, 1) := by decide +kernel
theorem dL_law_532 : decode cL_law 532 = .ok (.invokevirtual 64, 3) := by decide +kernel
theorem dL_law_535 : decode cL_law 535 = .ok (.if_icmp .eq 759, 3) := by decide +kernel
theorem dL_law_538 : decode cL_law 538 = .ok (.iconst 0, 1) := by decide +kernel
theorem dL_law_539 : decode cL_law 539 = .ok (.ireturn, 1) := by decide +kernel
theorem dL_law_540 : decode cL_law 540 = .ok (.aload_n 1, 1) := by decide +kernel
theorem dL_law_541 : decode cL_law 541 = .ok (.aload_n 0, 1) := by decide +kernel
theorem dL_law_542 : decode cL_law 542 = .ok (.iload_n 3, 1) := by decide +kernel
theorem dL_law_543 : decode cL_law 543 = .ok (.iconst 1, 1) := by decide +kernel
theorem dL_law_544 : decode cL_law 544 = .ok (.iadd, 1) := by decide +kernel
theorem dL_law_545 : decode cL_law 545 = .ok (.iaload, 1) := by decide +kernel
theorem dL_law_546 : decode cL_law 546 = .ok (.invokevirtual 65, 3) := by decide +kernel
theorem dL_law_549 : decode cL_law 549 = .ok (.aload_n 2, 1) := by decide +kernel
theorem dL_law_550 : decode cL_law 550 = .ok (.aload_n 0, 1) := by decide +kernel
theorem dL_law_551 : decode cL_law 551 = .ok (.iload_n 3, 1) := by decide +kernel
theorem dL_law_552 : decode cL_law 552 = .ok (.iconst 1, 1) := by decide +kernel
theorem dL_law_553 : decode cL_law 553 = .ok (.iadd, 1) := by decide +kernel
theorem dL_law_554 : decode cL_law 554 = .ok (.iaload, 1) := by decide +kernel
theorem dL_law_555 : decode cL_law 555 = .ok (.invokevirtual 68, 3) := by decide +kernel
theorem dL_law_558 : decode cL_law 558 = .ok (.if_icmp .eq 736, 3) := by decide +kernel
theorem dL_law_561 : decode cL_law 561 = .ok (.iconst 0, 1) := by decide +kernel
theorem dL_law_562 : decode cL_law 562 = .ok (.ireturn, 1) := by decide +kernel
theorem dL_law_563 : decode cL_law 563 = .ok (.aload_n 1, 1) := by decide +kernel
theorem dL_law_564 : decode cL_law 564 = .ok (.aload_n 0, 1) := by decide +kernel
theorem dL_law_565 : decode cL_law 565 = .ok (.iload_n 3, 1) := by decide +kernel
theorem dL_law_566 : decode cL_law 566 = .ok (.iconst 1, 1) := by decide +kernel
theorem dL_law_567 : decode cL_law 567 = .ok (.iadd, 1) := by decide +kernel
theorem dL_law_568 : decode cL_law 568 = .ok (.iaload, 1) := by decide +kernel
theorem dL_law_569 : decode cL_law 569 = .ok (.invokevirtual 69, 3) := by decide +kernel
theorem dL_law_572 : decode cL_law 572 = .ok (.aload_n 2, 1) := by decide +kernel
theorem dL_law_573 : decode cL_law 573 = .ok (.aload_n 0, 1) := by decide +kernel
theorem dL_law_574 : decode cL_law 574 = .ok (.iload_n 3, 1) := by decide +kernel
theorem dL_law_575 : decode cL_law 575 = .ok (.iconst 1, 1) := by decide +kernel
theorem dL_law_576 : decode cL_law 576 = .ok (.iadd, 1) := by decide +kernel
theorem dL_law_577 : decode cL_law 577 = .ok (.iaload, 1) := by decide +kernel
theorem dL_law_578 : decode cL_law 578 = .ok (.invokevirtual 72, 3) := by decide +kernel
theorem dL_law_581 : decode cL_law 581 = .ok (.if_icmp .eq 713, 3) := by decide +kernel
theorem dL_law_584 : decode cL_law 584 = .ok (.iconst 0, 1) := by decide +kernel
theorem dL_law_585 : decode cL_law 585 = .ok (.ireturn, 1) := by decide +kernel
theorem dL_law_586 : decode cL_law 586 = .ok (.aload_n 1, 1) := by decide +kernel
theorem dL_law_587 : decode cL_law 587 = .ok (.aload_n 0, 1) := by decide +kernel
theorem dL_law_588 : decode cL_law 588 = .ok (.iload_n 3, 1) := by decide +kernel
theorem dL_law_589 : decode cL_law 589 = .ok (.iconst 1, 1) := by decide +kernel
theorem dL_law_590 : decode cL_law 590 = .ok (.iadd, 1) := by decide +kernel
theorem dL_law_591 : decode cL_law 591 = .ok (.iaload, 1) := by decide +kernel
theorem dL_law_592 : decode cL_law 592 = .ok (.aload_n 0, 1) := by decide +kernel
theorem dL_law_593 : decode cL_law 593 = .ok (.iload_n 3, 1) := by decide +kernel
theorem dL_law_594 : decode cL_law 594 = .ok (.iconst 2, 1) := by decide +kernel
theorem dL_law_595 : decode cL_law 595 = .ok (.iadd, 1) := by decide +kernel
theorem dL_law_596 : decode cL_law 596 = .ok (.iaload, 1) := by decide +kernel
theorem dL_law_597 : decode cL_law 597 = .ok (.aload_n 0, 1) := by decide +kernel
theorem dL_law_598 : decode cL_law 598 = .ok (.iload_n 3, 1) := by decide +kernel
theorem dL_law_599 : decode cL_law 599 = .ok (.iconst 3, 1) := by decide +kernel
theorem dL_law_600 : decode cL_law 600 = .ok (.iadd, 1) := by decide +kernel
theorem dL_law_601 : decode cL_law 601 = .ok (.iaload, 1) := by decide +kernel
theorem dL_law_602 : decode cL_law 602 = .ok (.invokevirtual 73, 3) := by decide +kernel
theorem dL_law_605 : decode cL_law 605 = .ok (.aload_n 2, 1) := by decide +kernel
theorem dL_law_606 : decode cL_law 606 = .ok (.aload_n 0, 1) := by decide +kernel
theorem dL_law_607 : decode cL_law 607 = .ok (.iload_n 3, 1) := by decide +kernel
theorem dL_law_608 : decode cL_law 608 = .ok (.iconst 1, 1) := by decide +kernel
theorem dL_law_609 : decode cL_law 609 = .ok (.iadd, 1) := by decide +kernel
theorem dL_law_610 : decode cL_law 610 = .ok (.iaload, 1) := by decide +kernel
theorem dL_law_611 : decode cL_law 611 = .ok (.aload_n 0, 1) := by decide +kernel
theorem dL_law_612 : decode cL_law 612 = .ok (.iload_n 3, 1) := by decide +kernel
theorem dL_law_613 : decode cL_law 613 = .ok (.iconst 2, 1) := by decide +kernel
theorem dL_law_614 : decode cL_law 614 = .ok (.iadd, 1) := by decide +kernel
theorem dL_law_615 : decode cL_law 615 = .ok (.iaload, 1) := by decide +kernel
theorem dL_law_616 : decode cL_law 616 = .ok (.aload_n 0, 1) := by decide +kernel
theorem dL_law_617 : decode cL_law 617 = .ok (.iload_n 3, 1) := by decide +kernel
theorem dL_law_618 : decode cL_law 618 = .ok (.iconst 3, 1) := by decide +kernel
theorem dL_law_619 : decode cL_law 619 = .ok (.iadd, 1) := by decide +kernel
theorem dL_law_620 : decode cL_law 620 = .ok (.iaload, 1) := by decide +kernel
theorem dL_law_621 : decode cL_law 621 = .ok (.invokevirtual 77, 3) := by decide +kernel
theorem dL_law_624 : decode cL_law 624 = .ok (.if_icmp .eq 670, 3) := by decide +kernel
theorem dL_law_627 : decode cL_law 627 = .ok (.iconst 0, 1) := by decide +kernel
theorem dL_law_628 : decode cL_law 628 = .ok (.ireturn, 1) := by decide +kernel
theorem dL_law_629 : decode cL_law 629 = .ok (.aload_n 1, 1) := by decide +kernel
theorem dL_law_630 : decode cL_law 630 = .ok (.aload_n 0, 1) := by decide +kernel
theorem dL_law_631 : decode cL_law 631 = .ok (.iload_n 3, 1) := by decide +kernel
theorem dL_law_632 : decode cL_law 632 = .ok (.iconst 1, 1) := by decide +kernel
theorem dL_law_633 : decode cL_law 633 = .ok (.iadd, 1) := by decide +kernel
theorem dL_law_634 : decode cL_law 634 = .ok (.iaload, 1) := by decide +kernel
theorem dL_law_635 : decode cL_law 635 = .ok (.aload_n 0, 1) := by decide +kernel
theorem dL_law_636 : decode cL_law 636 = .ok (.iload_n 3, 1) := by decide +kernel
theorem dL_law_637 : decode cL_law 637 = .ok (.iconst 2, 1) := by decide +kernel
theorem dL_law_638 : decode cL_law 638 = .ok (.iadd, 1) := by decide +kernel
theorem dL_law_639 : decode cL_law 639 = .ok (.iaload, 1) := by decide +kernel
theorem dL_law_640 : decode cL_law 640 = .ok (.invokevirtual 78, 3) := by decide +kernel
theorem dL_law_643 : decode cL_law 643 = .ok (.aload_n 2, 1) := by decide +kernel
theorem dL_law_644 : decode cL_law 644 = .ok (.aload_n 0, 1) := by decide +kernel
theorem dL_law_645 : decode cL_law 645 = .ok (.iload_n 3, 1) := by decide +kernel
theorem dL_law_646 : decode cL_law 646 = .ok (.iconst 1, 1) := by decide +kernel
theorem dL_law_647 : decode cL_law 647 = .ok (.iadd, 1) := by decide +kernel
theorem dL_law_648 : decode cL_law 648 = .ok (.iaload, 1) := by decide +kernel
theorem dL_law_649 : decode cL_law 649 = .ok (.aload_n 0, 1) := by decide +kernel
theorem dL_law_650 : decode cL_law 650 = .ok (.iload_n 3, 1) := by decide +kernel
theorem dL_law_651 : decode cL_law 651 = .ok (.iconst 2, 1) := by decide +kernel
theorem dL_law_652 : decode cL_law 652 = .ok (.iadd, 1) := by decide +kernel
theorem dL_law_653 : decode cL_law 653 = .ok (.iaload, 1) := by decide +kernel
theorem dL_law_654 : decode cL_law 654 = .ok (.invokevirtual 81, 3) := by decide +kernel
theorem dL_law_657 : decode cL_law 657 = .ok (.if_icmp .eq 637, 3) := by decide +kernel
theorem dL_law_660 : decode cL_law 660 = .ok (.iconst 0, 1) := by decide +kernel
theorem dL_law_661 : decode cL_law 661 = .ok (.ireturn, 1) := by decide +kernel
theorem dL_law_662 : decode cL_law 662 = .ok (.aload_n 1, 1) := by decide +kernel
theorem dL_law_663 : decode cL_law 663 = .ok (.aload_n 0, 1) := by decide +kernel
theorem dL_law_664 : decode cL_law 664 = .ok (.iload_n 3, 1) := by decide +kernel
theorem dL_law_665 : decode cL_law 665 = .ok (.iconst 1, 1) := by decide +kernel
theorem dL_law_666 : decode cL_law 666 = .ok (.iadd, 1) := by decide +kernel
theorem dL_law_667 : decode cL_law 667 = .ok (.iaload, 1) := by decide +kernel
theorem dL_law_668 : decode cL_law 668 = .ok (.aload_n 0, 1) := by decide +kernel
theorem dL_law_669 : decode cL_law 669 = .ok (.iload_n 3, 1) := by decide +kernel
theorem dL_law_670 : decode cL_law 670 = .ok (.iconst 2, 1) := by decide +kernel
theorem dL_law_671 : decode cL_law 671 = .ok (.iadd, 1) := by decide +kernel
theorem dL_law_672 : decode cL_law 672 = .ok (.iaload, 1) := by decide +kernel
theorem dL_law_673 : decode cL_law 673 = .ok (.aload_n 0, 1) := by decide +kernel
theorem dL_law_674 : decode cL_law 674 = .ok (.iload_n 3, 1) := by decide +kernel
theorem dL_law_675 : decode cL_law 675 = .ok (.iconst 3, 1) := by decide +kernel
theorem dL_law_676 : decode cL_law 676 = .ok (.iadd, 1) := by decide +kernel
theorem dL_law_677 : decode cL_law 677 = .ok (.iaload, 1) := by decide +kernel
theorem dL_law_678 : decode cL_law 678 = .ok (.invokevirtual 82, 3) := by decide +kernel
theorem dL_law_681 : decode cL_law 681 = .ok (.aload_n 2, 1) := by decide +kernel
theorem dL_law_682 : decode cL_law 682 = .ok (.aload_n 0, 1) := by decide +kernel
theorem dL_law_683 : decode cL_law 683 = .ok (.iload_n 3, 1) := by decide +kernel
theorem dL_law_684 : decode cL_law 684 = .ok (.iconst 1, 1) := by decide +kernel
theorem dL_law_685 : decode cL_law 685 = .ok (.iadd, 1) := by decide +kernel
theorem dL_law_686 : decode cL_law 686 = .ok (.iaload, 1) := by decide +kernel
theorem dL_law_687 : decode cL_law 687 = .ok (.aload_n 0, 1) := by decide +kernel
theorem dL_law_688 : decode cL_law 688 = .ok (.iload_n 3, 1) := by decide +kernel
theorem dL_law_689 : decode cL_law 689 = .ok (.iconst 2, 1) := by decide +kernel
theorem dL_law_690 : decode cL_law 690 = .ok (.iadd, 1) := by decide +kernel
theorem dL_law_691 : decode cL_law 691 = .ok (.iaload, 1) := by decide +kernel
theorem dL_law_692 : decode cL_law 692 = .ok (.aload_n 0, 1) := by decide +kernel
theorem dL_law_693 : decode cL_law 693 = .ok (.iload_n 3, 1) := by decide +kernel
theorem dL_law_694 : decode cL_law 694 = .ok (.iconst 3, 1) := by decide +kernel
theorem dL_law_695 : decode cL_law 695 = .ok (.iadd, 1) := by decide +kernel
theorem dL_law_696 : decode cL_law 696 = .ok (.iaload, 1) := by decide +kernel
theorem dL_law_697 : decode cL_law 697 = .ok (.invokevirtual 85, 3) := by decide +kernel
theorem dL_law_700 : decode cL_law 700 = .ok (.if_icmp .eq 594, 3) := by decide +kernel
theorem dL_law_703 : decode cL_law 703 = .ok (.iconst 0, 1) := by decide +kernel
theorem dL_law_704 : decode cL_law 704 = .ok (.ireturn, 1) := by decide +kernel
theorem dL_law_705 : decode cL_law 705 = .ok (.aload_n 1, 1) := by decide +kernel
theorem dL_law_706 : decode cL_law 706 = .ok (.aload_n 0, 1) := by decide +kernel
theorem dL_law_707 : decode cL_law 707 = .ok (.iload_n 3, 1) := by decide +kernel
theorem dL_law_708 : decode cL_law 708 = .ok (.iconst 1, 1) := by decide +kernel
theorem dL_law_709 : decode cL_law 709 = .ok (.iadd, 1) := by decide +kernel
theorem dL_law_710 : decode cL_law 710 = .ok (.iaload, 1) := by decide +kernel
theorem dL_law_711 : decode cL_law 711 = .ok (.invokevirtual 86, 3) := by decide +kernel
theorem dL_law_714 : decode cL_law 714 = .ok (.aload_n 2, 1) := by decide +kernel
theorem dL_law_715 : decode cL_law 715 = .ok (.aload_n 0, 1) := by decide +kernel
theorem dL_law_716 : decode cL_law 716 = .ok (.iload_n 3, 1) := by decide +kernel
theorem dL_law_717 : decode cL_law 717 = .ok (.iconst 1, 1) := by decide +kernel
theorem dL_law_718 : decode cL_law 718 = .ok (.iadd, 1) := by decide +kernel
theorem dL_law_719 : decode cL_law 719 = .ok (.iaload, 1) := by decide +kernel
theorem dL_law_720 : decode cL_law 720 = .ok (.invokevirtual 89, 3) := by decide +kernel
theorem dL_law_723 : decode cL_law 723 = .ok (.if_icmp .eq 571, 3) := by decide +kernel
theorem dL_law_726 : decode cL_law 726 = .ok (.iconst 0, 1) := by decide +kernel
theorem dL_law_727 : decode cL_law 727 = .ok (.ireturn, 1) := by decide +kernel
theorem dL_law_728 : decode cL_law 728 = .ok (.aload_n 1, 1) := by decide +kernel
theorem dL_law_729 : decode cL_law 729 = .ok (.aload_n 0, 1) := by decide +kernel
theorem dL_law_730 : decode cL_law 730 = .ok (.iload_n 3, 1) := by decide +kernel
theorem dL_law_731 : decode cL_law 731 = .ok (.iconst 1, 1) := by decide +kernel
theorem dL_law_732 : decode cL_law 732 = .ok (.iadd, 1) := by decide +kernel
theorem dL_law_733 : decode cL_law 733 = .ok (.iaload, 1) := by decide +kernel
theorem dL_law_734 : decode cL_law 734 = .ok (.invokevirtual 90, 3) := by decide +kernel
theorem dL_law_737 : decode cL_law 737 = .ok (.aload_n 2, 1) := by decide +kernel
theorem dL_law_738 : decode cL_law 738 = .ok (.aload_n 0, 1) := by decide +kernel
theorem dL_law_739 : decode cL_law 739 = .ok (.iload_n 3, 1) := by decide +kernel
theorem dL_law_740 : decode cL_law 740 = .ok (.iconst 1, 1) := by decide +kernel
theorem dL_law_741 : decode cL_law 741 = .ok (.iadd, 1) := by decide +kernel
theorem dL_law_742 : decode cL_law 742 = .ok (.iaload, 1) := by decide +kernel
theorem dL_law_743 : decode cL_law 743 = .ok (.invokevirtual 93, 3) := by decide +kernel
theorem dL_law_746 : decode cL_law 746 = .ok (.if_icmp .eq 548, 3) := by decide +kernel
theorem dL_law_749 : decode cL_law 749 = .ok (.iconst 0, 1) := by decide +kernel
theorem dL_law_750 : decode cL_law 750 = .ok (.ireturn, 1) := by decide +kernel
theorem dL_law_751 : decode cL_law 751 = .ok (.aload_n 1, 1) := by decide +kernel
theorem dL_law_752 : decode cL_law 752 = .ok (.aload_n 0, 1) := by decide +kernel
theorem dL_law_753 : decode cL_law 753 = .ok (.iload_n 3, 1) := by decide +kernel
theorem dL_law_754 : decode cL_law 754 = .ok (.iconst 1, 1) := by decide +kernel
theorem dL_law_755 : decode cL_law 755 = .ok (.iadd, 1) := by decide +kernel
theorem dL_law_756 : decode cL_law 756 = .ok (.iaload, 1) := by decide +kernel
theorem dL_law_757 : decode cL_law 757 = .ok (.aload_n 0, 1) := by decide +kernel
theorem dL_law_758 : decode cL_law 758 = .ok (.iload_n 3, 1) := by decide +kernel
theorem dL_law_759 : decode cL_law 759 = .ok (.iconst 2, 1) := by decide +kernel
theorem dL_law_760 : decode cL_law 760 = .ok (.iadd, 1) := by decide +kernel
theorem dL_law_761 : decode cL_law 761 = .ok (.iaload, 1) := by decide +kernel
theorem dL_law_762 : decode cL_law 762 = .ok (.aload_n 0, 1) := by decide +kernel
theorem dL_law_763 : decode cL_law 763 = .ok (.iload_n 3, 1) := by decide +kernel
theorem dL_law_764 : decode cL_law 764 = .ok (.iconst 3, 1) := by decide +kernel
theorem dL_law_765 : decode cL_law 765 = .ok (.iadd, 1) := by decide +kernel
theorem dL_law_766 : decode cL_law 766 = .ok (.iaload, 1) := by decide +kernel
theorem dL_law_767 : decode cL_law 767 = .ok (.invokevirtual 94, 3) := by decide +kernel
theorem dL_law_770 : decode cL_law 770 = .ok (.aload_n 2, 1) := by decide +kernel
theorem dL_law_771 : decode cL_law 771 = .ok (.aload_n 0, 1) := by decide +kernel
theorem dL_law_772 : decode cL_law 772 = .ok (.iload_n 3, 1) := by decide +kernel
theorem dL_law_773 : decode cL_law 773 = .ok (.iconst 1, 1) := by decide +kernel
theorem dL_law_774 : decode cL_law 774 = .ok (.iadd, 1) := by decide +kernel
theorem dL_law_775 : decode cL_law 775 = .ok (.iaload, 1) := by decide +kernel
theorem dL_law_776 : decode cL_law 776 = .ok (.aload_n 0, 1) := by decide +kernel
theorem dL_law_777 : decode cL_law 777 = .ok (.iload_n 3, 1) := by decide +kernel
theorem dL_law_778 : decode cL_law 778 = .ok (.iconst 2, 1) := by decide +kernel
theorem dL_law_779 : decode cL_law 779 = .ok (.iadd, 1) := by decide +kernel
theorem dL_law_780 : decode cL_law 780 = .ok (.iaload, 1) := by decide +kernel
theorem dL_law_781 : decode cL_law 781 = .ok (.aload_n 0, 1) := by decide +kernel
theorem dL_law_782 : decode cL_law 782 = .ok (.iload_n 3, 1) := by decide +kernel
theorem dL_law_783 : decode cL_law 783 = .ok (.iconst 3, 1) := by decide +kernel
theorem dL_law_784 : decode cL_law 784 = .ok (.iadd, 1) := by decide +kernel
theorem dL_law_785 : decode cL_law 785 = .ok (.iaload, 1) := by decide +kernel
theorem dL_law_786 : decode cL_law 786 = .ok (.invokevirtual 97, 3) := by decide +kernel
theorem dL_law_789 : decode cL_law 789 = .ok (.if_icmp .eq 505, 3) := by decide +kernel
theorem dL_law_792 : decode cL_law 792 = .ok (.iconst 0, 1) := by decide +kernel
theorem dL_law_793 : decode cL_law 793 = .ok (.ireturn, 1) := by decide +kernel
theorem dL_law_794 : decode cL_law 794 = .ok (.aload_n 1, 1) := by decide +kernel
theorem dL_law_795 : decode cL_law 795 = .ok (.aload_n 0, 1) := by decide +kernel
theorem dL_law_796 : decode cL_law 796 = .ok (.iload_n 3, 1) := by decide +kernel
theorem dL_law_797 : decode cL_law 797 = .ok (.iconst 1, 1) := by decide +kernel
theorem dL_law_798 : decode cL_law 798 = .ok (.iadd, 1) := by decide +kernel
theorem dL_law_799 : decode cL_law 799 = .ok (.iaload, 1) := by decide +kernel
theorem dL_law_800 : decode cL_law 800 = .ok (.aload_n 0, 1) := by decide +kernel
theorem dL_law_801 : decode cL_law 801 = .ok (.iload_n 3, 1) := by decide +kernel
theorem dL_law_802 : decode cL_law 802 = .ok (.iconst 2, 1) := by decide +kernel
theorem dL_law_803 : decode cL_law 803 = .ok (.iadd, 1) := by decide +kernel
theorem dL_law_804 : decode cL_law 804 = .ok (.iaload, 1) := by decide +kernel
theorem dL_law_805 : decode cL_law 805 = .ok (.invokevirtual 98, 3) := by decide +kernel
theorem dL_law_808 : decode cL_law 808 = .ok (.aload_n 2, 1) := by decide +kernel
theorem dL_law_809 : decode cL_law 809 = .ok (.aload_n 0, 1) := by decide +kernel
theorem dL_law_810 : decode cL_law 810 = .ok (.iload_n 3, 1) := by decide +kernel
theorem dL_law_811 : decode cL_law 811 = .ok (.iconst 1, 1) := by decide +kernel
theorem dL_law_812 : decode cL_law 812 = .ok (.iadd, 1) := by decide +kernel
theorem dL_law_813 : decode cL_law 813 = .ok (.iaload, 1) := by decide +kernel
theorem dL_law_814 : decode cL_law 814 = .ok (.aload_n 0, 1) := by decide +kernel
theorem dL_law_815 : decode cL_law 815 = .ok (.iload_n 3, 1) := by decide +kernel
theorem dL_law_816 : decode cL_law 816 = .ok (.iconst 2, 1) := by decide +kernel
theorem dL_law_817 : decode cL_law 817 = .ok (.iadd, 1) := by decide +kernel
theorem dL_law_818 : decode cL_law 818 = .ok (.iaload, 1) := by decide +kernel
theorem dL_law_819 : decode cL_law 819 = .ok (.invokevirtual 101, 3) := by decide +kernel
theorem dL_law_822 : decode cL_law 822 = .ok (.if_icmp .eq 472, 3) := by decide +kernel
theorem dL_law_825 : decode cL_law 825 = .ok (.iconst 0, 1) := by decide +kernel
theorem dL_law_826 : decode cL_law 826 = .ok (.ireturn, 1) := by decide +kernel
theorem dL_law_827 : decode cL_law 827 = .ok (.aload_n 1, 1) := by decide +kernel
theorem dL_law_828 : decode cL_law 828 = .ok (.aload_n 0, 1) := by decide +kernel
theorem dL_law_829 : decode cL_law 829 = .ok (.iload_n 3, 1) := by decide +kernel
theorem dL_law_830 : decode cL_law 830 = .ok (.iconst 1, 1) := by decide +kernel
theorem dL_law_831 : decode cL_law 831 = .ok (.iadd, 1) := by decide +kernel
theorem dL_law_832 : decode cL_law 832 = .ok (.iaload, 1) := by decide +kernel
theorem dL_law_833 : decode cL_law 833 = .ok (.aload_n 0, 1) := by decide +kernel
theorem dL_law_834 : decode cL_law 834 = .ok (.iload_n 3, 1) := by decide +kernel
theorem dL_law_835 : decode cL_law 835 = .ok (.iconst 2, 1) := by decide +kernel
theorem dL_law_836 : decode cL_law 836 = .ok (.iadd, 1) := by decide +kernel
theorem dL_law_837 : decode cL_law 837 = .ok (.iaload, 1) := by decide +kernel
theorem dL_law_838 : decode cL_law 838 = .ok (.invokevirtual 102, 3) := by decide +kernel
theorem dL_law_841 : decode cL_law 841 = .ok (.aload_n 2, 1) := by decide +kernel
theorem dL_law_842 : decode cL_law 842 = .ok (.aload_n 0, 1) := by decide +kernel
theorem dL_law_843 : decode cL_law 843 = .ok (.iload_n 3, 1) := by decide +kernel
theorem dL_law_844 : decode cL_law 844 = .ok (.iconst 1, 1) := by decide +kernel
theorem dL_law_845 : decode cL_law 845 = .ok (.iadd, 1) := by decide +kernel
theorem dL_law_846 : decode cL_law 846 = .ok (.iaload, 1) := by decide +kernel
theorem dL_law_847 : decode cL_law 847 = .ok (.aload_n 0, 1) := by decide +kernel
theorem dL_law_848 : decode cL_law 848 = .ok (.iload_n 3, 1) := by decide +kernel
theorem dL_law_849 : decode cL_law 849 = .ok (.iconst 2, 1) := by decide +kernel
theorem dL_law_850 : decode cL_law 850 = .ok (.iadd, 1) := by decide +kernel
theorem dL_law_851 : decode cL_law 851 = .ok (.iaload, 1) := by decide +kernel
theorem dL_law_852 : decode cL_law 852 = .ok (.invokevirtual 105, 3) := by decide +kernel
theorem dL_law_855 : decode cL_law 855 = .ok (.if_icmp .eq 439, 3) := by decide +kernel
theorem dL_law_858 : decode cL_law 858 = .ok (.iconst 0, 1) := by decide +kernel
theorem dL_law_859 : decode cL_law 859 = .ok (.ireturn, 1) := by decide +kernel
theorem dL_law_860 : decode cL_law 860 = .ok (.aload_n 1, 1) := by decide +kernel
theorem dL_law_861 : decode cL_law 861 = .ok (.invokevirtual 106, 3) := by decide +kernel
theorem dL_law_864 : decode cL_law 864 = .ok (.aload_n 2, 1) := by decide +kernel
theorem dL_law_865 : decode cL_law 865 = .ok (.invokevirtual 109, 3) := by decide +kernel
theorem dL_law_868 : decode cL_law 868 = .ok (.if_icmp .eq 426, 3) := by decide +kernel
theorem dL_law_871 : decode cL_law 871 = .ok (.iconst 0, 1) := by decide +kernel
theorem dL_law_872 : decode cL_law 872 = .ok (.ireturn, 1) := by decide +kernel
theorem dL_law_873 : decode cL_law 873 = .ok (.aload_n 1, 1) := by decide +kernel
theorem dL_law_874 : decode cL_law 874 = .ok (.aload_n 0, 1) := by decide +kernel
theorem dL_law_875 : decode cL_law 875 = .ok (.iload_n 3, 1) := by decide +kernel
theorem dL_law_876 : decode cL_law 876 = .ok (.iconst 1, 1) := by decide +kernel
theorem dL_law_877 : decode cL_law 877 = .ok (.iadd, 1) := by decide +kernel
theorem dL_law_878 : decode cL_law 878 = .ok (.iaload, 1) := by decide +kernel
theorem dL_law_879 : decode cL_law 879 = .ok (.invokevirtual 110, 3) := by decide +kernel
theorem dL_law_882 : decode cL_law 882 = .ok (.aload_n 2, 1) := by decide +kernel
theorem dL_law_883 : decode cL_law 883 = .ok (.aload_n 0, 1) := by decide +kernel
theorem dL_law_884 : decode cL_law 884 = .ok (.iload_n 3, 1) := by decide +kernel
theorem dL_law_885 : decode cL_law 885 = .ok (.iconst 1, 1) := by decide +kernel
theorem dL_law_886 : decode cL_law 886 = .ok (.iadd, 1) := by decide +kernel
theorem dL_law_887 : decode cL_law 887 = .ok (.iaload, 1) := by decide +kernel
theorem dL_law_888 : decode cL_law 888 = .ok (.invokevirtual 113, 3) := by decide +kernel
theorem dL_law_891 : decode cL_law 891 = .ok (.if_icmp .eq 403, 3) := by decide +kernel
theorem dL_law_894 : decode cL_law 894 = .ok (.iconst 0, 1) := by decide +kernel
theorem dL_law_895 : decode cL_law 895 = .ok (.ireturn, 1) := by decide +kernel
theorem dL_law_896 : decode cL_law 896 = .ok (.aload_n 1, 1) := by decide +kernel
theorem dL_law_897 : decode cL_law 897 = .ok (.aload_n 0, 1) := by decide +kernel
theorem dL_law_898 : decode cL_law 898 = .ok (.iload_n 3, 1) := by decide +kernel
theorem dL_law_899 : decode cL_law 899 = .ok (.iconst 1, 1) := by decide +kernel
theorem dL_law_900 : decode cL_law 900 = .ok (.iadd, 1) := by decide +kernel
theorem dL_law_901 : decode cL_law 901 = .ok (.iaload, 1) := by decide +kernel
theorem dL_law_902 : decode cL_law 902 = .ok (.invokevirtual 114, 3) := by decide +kernel
theorem dL_law_905 : decode cL_law 905 = .ok (.aload_n 2, 1) := by decide +kernel
theorem dL_law_906 : decode cL_law 906 = .ok (.aload_n 0, 1) := by decide +kernel
theorem dL_law_907 : decode cL_law 907 = .ok (.iload_n 3, 1) := by decide +kernel
theorem dL_law_908 : decode cL_law 908 = .ok (.iconst 1, 1) := by decide +kernel
theorem dL_law_909 : decode cL_law 909 = .ok (.iadd, 1) := by decide +kernel
theorem dL_law_910 : decode cL_law 910 = .ok (.iaload, 1) := by decide +kernel
theorem dL_law_911 : decode cL_law 911 = .ok (.invokevirtual 117, 3) := by decide +kernel
theorem dL_law_914 : decode cL_law 914 = .ok (.if_icmp .eq 380, 3) := by decide +kernel
theorem dL_law_917 : decode cL_law 917 = .ok (.iconst 0, 1) := by decide +kernel
theorem dL_law_918 : decode cL_law 918 = .ok (.ireturn, 1) := by decide +kernel
theorem dL_law_919 : decode cL_law 919 = .ok (.aload_n 1, 1) := by decide +kernel
theorem dL_law_920 : decode cL_law 920 = .ok (.aload_n 0, 1) := by decide +kernel
theorem dL_law_921 : decode cL_law 921 = .ok (.iload_n 3, 1) := by decide +kernel
theorem dL_law_922 : decode cL_law 922 = .ok (.iconst 1, 1) := by decide +kernel
theorem dL_law_923 : decode cL_law 923 = .ok (.iadd, 1) := by decide +kernel
theorem dL_law_924 : decode cL_law 924 = .ok (.iaload, 1) := by decide +kernel
theorem dL_law_925 : decode cL_law 925 = .ok (.aload_n 0, 1) := by decide +kernel
theorem dL_law_926 : decode cL_law 926 = .ok (.iload_n 3, 1) := by decide +kernel
theorem dL_law_927 : decode cL_law 927 = .ok (.iconst 2, 1) := by decide +kernel
theorem dL_law_928 : decode cL_law 928 = .ok (.iadd, 1) := by decide +kernel
theorem dL_law_929 : decode cL_law 929 = .ok (.iaload, 1) := by decide +kernel
theorem dL_law_930 : decode cL_law 930 = .ok (.invokevirtual 118, 3) := by decide +kernel
theorem dL_law_933 : decode cL_law 933 = .ok (.aload_n 2, 1) := by decide +kernel
theorem dL_law_934 : decode cL_law 934 = .ok (.aload_n 0, 1) := by decide +kernel
theorem dL_law_935 : decode cL_law 935 = .ok (.iload_n 3, 1) := by decide +kernel
theorem dL_law_936 : decode cL_law 936 = .ok (.iconst 1, 1) := by decide +kernel
theorem dL_law_937 : decode cL_law 937 = .ok (.iadd, 1) := by decide +kernel
theorem dL_law_938 : decode cL_law 938 = .ok (.iaload, 1) := by decide +kernel
theorem dL_law_939 : decode cL_law 939 = .ok (.aload_n 0, 1) := by decide +kernel
theorem dL_law_940 : decode cL_law 940 = .ok (.iload_n 3, 1) := by decide +kernel
theorem dL_law_941 : decode cL_law 941 = .ok (.iconst 2, 1) := by decide +kernel
theorem dL_law_942 : decode cL_law 942 = .ok (.iadd, 1) := by decide +kernel
theorem dL_law_943 : decode cL_law 943 = .ok (.iaload, 1) := by decide +kernel
theorem dL_law_944 : decode cL_law 944 = .ok (.invokevirtual 121, 3) := by decide +kernel
theorem dL_law_947 : decode cL_law 947 = .ok (.if_icmp .eq 347, 3) := by decide +kernel
theorem dL_law_950 : decode cL_law 950 = .ok (.iconst 0, 1) := by decide +kernel
theorem dL_law_951 : decode cL_law 951 = .ok (.ireturn, 1) := by decide +kernel
theorem dL_law_952 : decode cL_law 952 = .ok (.aload_n 1, 1) := by decide +kernel
theorem dL_law_953 : decode cL_law 953 = .ok (.aload_n 0, 1) := by decide +kernel
theorem dL_law_954 : decode cL_law 954 = .ok (.iload_n 3, 1) := by decide +kernel
theorem dL_law_955 : decode cL_law 955 = .ok (.iconst 1, 1) := by decide +kernel
theorem dL_law_956 : decode cL_law 956 = .ok (.iadd, 1) := by decide +kernel
theorem dL_law_957 : decode cL_law 957 = .ok (.iaload, 1) := by decide +kernel
theorem dL_law_958 : decode cL_law 958 = .ok (.aload_n 0, 1) := by decide +kernel
theorem dL_law_959 : decode cL_law 959 = .ok (.iload_n 3, 1) := by decide +kernel
theorem dL_law_960 : decode cL_law 960 = .ok (.iconst 2, 1) := by decide +kernel
theorem dL_law_961 : decode cL_law 961 = .ok (.iadd, 1) := by decide +kernel
theorem dL_law_962 : decode cL_law 962 = .ok (.iaload, 1) := by decide +kernel
theorem dL_law_963 : decode cL_law 963 = .ok (.invokevirtual 122, 3) := by decide +kernel
theorem dL_law_966 : decode cL_law 966 = .ok (.aload_n 2, 1) := by decide +kernel
theorem dL_law_967 : decode cL_law 967 = .ok (.aload_n 0, 1) := by decide +kernel
theorem dL_law_968 : decode cL_law 968 = .ok (.iload_n 3, 1) := by decide +kernel
theorem dL_law_969 : decode cL_law 969 = .ok (.iconst 1, 1) := by decide +kernel
theorem dL_law_970 : decode cL_law 970 = .ok (.iadd, 1) := by decide +kernel
theorem dL_law_971 : decode cL_law 971 = .ok (.iaload, 1) := by decide +kernel
theorem dL_law_972 : decode cL_law 972 = .ok (.aload_n 0, 1) := by decide +kernel
theorem dL_law_973 : decode cL_law 973 = .ok (.iload_n 3, 1) := by decide +kernel
theorem dL_law_974 : decode cL_law 974 = .ok (.iconst 2, 1) := by decide +kernel
theorem dL_law_975 : decode cL_law 975 = .ok (.iadd, 1) := by decide +kernel
theorem dL_law_976 : decode cL_law 976 = .ok (.iaload, 1) := by decide +kernel
theorem dL_law_977 : decode cL_law 977 = .ok (.invokevirtual 125, 3) := by decide +kernel
theorem dL_law_980 : decode cL_law 980 = .ok (.if_icmp .eq 314, 3) := by decide +kernel
theorem dL_law_983 : decode cL_law 983 = .ok (.iconst 0, 1) := by decide +kernel
theorem dL_law_984 : decode cL_law 984 = .ok (.ireturn, 1) := by decide +kernel
theorem dL_law_985 : decode cL_law 985 = .ok (.aload_n 1, 1) := by decide +kernel
theorem dL_law_986 : decode cL_law 986 = .ok (.aload_n 0, 1) := by decide +kernel
theorem dL_law_987 : decode cL_law 987 = .ok (.iload_n 3, 1) := by decide +kernel
theorem dL_law_988 : decode cL_law 988 = .ok (.iconst 1, 1) := by decide +kernel
theorem dL_law_989 : decode cL_law 989 = .ok (.iadd, 1) := by decide +kernel
theorem dL_law_990 : decode cL_law 990 = .ok (.iaload, 1) := by decide +kernel
theorem dL_law_991 : decode cL_law 991 = .ok (.invokevirtual 126, 3) := by decide +kernel
theorem dL_law_994 : decode cL_law 994 = .ok (.aload_n 2, 1) := by decide +kernel
theorem dL_law_995 : decode cL_law 995 = .ok (.aload_n 0, 1) := by decide +kernel
theorem dL_law_996 : decode cL_law 996 = .ok (.iload_n 3, 1) := by decide +kernel
theorem dL_law_997 : decode cL_law 997 = .ok (.iconst 1, 1) := by decide +kernel
theorem dL_law_998 : decode cL_law 998 = .ok (.iadd, 1) := by decide +kernel
theorem dL_law_999 : decode cL_law 999 = .ok (.iaload, 1) := by decide +kernel
theorem dL_law_1000 : decode cL_law 1000 = .ok (.invokevirtual 129, 3) := by decide +kernel
theorem dL_law_1003 : decode cL_law 1003 = .ok (.if_icmp .eq 291, 3) := by decide +kernel
theorem dL_law_1006 : decode cL_law 1006 = .ok (.iconst 0, 1) := by decide +kernel
theorem dL_law_1007 : decode cL_law 1007 = .ok (.ireturn, 1) := by decide +kernel
theorem dL_law_1008 : decode cL_law 1008 = .ok (.aload_n 1, 1) := by decide +kernel
theorem dL_law_1009 : decode cL_law 1009 = .ok (.aload_n 0, 1) := by decide +kernel
theorem dL_law_1010 : decode cL_law 1010 = .ok (.iload_n 3, 1) := by decide +kernel
theorem dL_law_1011 : decode cL_law 1011 = .ok (.iconst 1, 1) := by decide +kernel
theorem dL_law_1012 : decode cL_law 1012 = .ok (.iadd, 1) := by decide +kernel
theorem dL_law_1013 : decode cL_law 1013 = .ok (.iaload, 1) := by decide +kernel
theorem dL_law_1014 : decode cL_law 1014 = .ok (.aload_n 0, 1) := by decide +kernel
theorem dL_law_1015 : decode cL_law 1015 = .ok (.iload_n 3, 1) := by decide +kernel
theorem dL_law_1016 : decode cL_law 1016 = .ok (.iconst 2, 1) := by decide +kernel
theorem dL_law_1017 : decode cL_law 1017 = .ok (.iadd, 1) := by decide +kernel
theorem dL_law_1018 : decode cL_law 1018 = .ok (.iaload, 1) := by decide +kernel
theorem dL_law_1019 : decode cL_law 1019 = .ok (.invokevirtual 130, 3) := by decide +kernel
theorem dL_law_1022 : decode cL_law 1022 = .ok (.aload_n 2, 1) := by decide +kernel
theorem dL_law_1023 : decode cL_law 1023 = .ok (.aload_n 0, 1) := by decide +kernel
theorem dL_law_1024 : decode cL_law 1024 = .ok (.iload_n 3, 1) := by decide +kernel
theorem dL_law_1025 : decode cL_law 1025 = .ok (.iconst 1, 1) := by decide +kernel
theorem dL_law_1026 : decode cL_law 1026 = .ok (.iadd, 1) := by decide +kernel
theorem dL_law_1027 : decode cL_law 1027 = .ok (.iaload, 1) := by decide +kernel
theorem dL_law_1028 : decode cL_law 1028 = .ok (.aload_n 0, 1) := by decide +kernel
theorem dL_law_1029 : decode cL_law 1029 = .ok (.iload_n 3, 1) := by decide +kernel
theorem dL_law_1030 : decode cL_law 1030 = .ok (.iconst 2, 1) := by decide +kernel
theorem dL_law_1031 : decode cL_law 1031 = .ok (.iadd, 1) := by decide +kernel
theorem dL_law_1032 : decode cL_law 1032 = .ok (.iaload, 1) := by decide +kernel
theorem dL_law_1033 : decode cL_law 1033 = .ok (.invokevirtual 133, 3) := by decide +kernel
theorem dL_law_1036 : decode cL_law 1036 = .ok (.if_icmp .eq 258, 3) := by decide +kernel
theorem dL_law_1039 : decode cL_law 1039 = .ok (.iconst 0, 1) := by decide +kernel
theorem dL_law_1040 : decode cL_law 1040 = .ok (.ireturn, 1) := by decide +kernel
theorem dL_law_1041 : decode cL_law 1041 = .ok (.aload_n 1, 1) := by decide +kernel
theorem dL_law_1042 : decode cL_law 1042 = .ok (.aload_n 0, 1) := by decide +kernel
theorem dL_law_1043 : decode cL_law 1043 = .ok (.iload_n 3, 1) := by decide +kernel
theorem dL_law_1044 : decode cL_law 1044 = .ok (.iconst 1, 1) := by decide +kernel
theorem dL_law_1045 : decode cL_law 1045 = .ok (.iadd, 1) := by decide +kernel
theorem dL_law_1046 : decode cL_law 1046 = .ok (.iaload, 1) := by decide +kernel
theorem dL_law_1047 : decode cL_law 1047 = .ok (.aload_n 0, 1) := by decide +kernel
theorem dL_law_1048 : decode cL_law 1048 = .ok (.iload_n 3, 1) := by decide +kernel
theorem dL_law_1049 : decode cL_law 1049 = .ok (.iconst 2, 1) := by decide +kernel
theorem dL_law_1050 : decode cL_law 1050 = .ok (.iadd, 1) := by decide +kernel
theorem dL_law_1051 : decode cL_law 1051 = .ok (.iaload, 1) := by decide +kernel
theorem dL_law_1052 : decode cL_law 1052 = .ok (.invokevirtual 134, 3) := by decide +kernel
theorem dL_law_1055 : decode cL_law 1055 = .ok (.aload_n 2, 1) := by decide +kernel
theorem dL_law_1056 : decode cL_law 1056 = .ok (.aload_n 0, 1) := by decide +kernel
theorem dL_law_1057 : decode cL_law 1057 = .ok (.iload_n 3, 1) := by decide +kernel
theorem dL_law_1058 : decode cL_law 1058 = .ok (.iconst 1, 1) := by decide +kernel
theorem dL_law_1059 : decode cL_law 1059 = .ok (.iadd, 1) := by decide +kernel
theorem dL_law_1060 : decode cL_law 1060 = .ok (.iaload, 1) := by decide +kernel
theorem dL_law_1061 : decode cL_law 1061 = .ok (.aload_n 0, 1) := by decide +kernel
theorem dL_law_1062 : decode cL_law 1062 = .ok (.iload_n 3, 1) := by decide +kernel
theorem dL_law_1063 : decode cL_law 1063 = .ok (.iconst 2, 1) := by decide +kernel
theorem dL_law_1064 : decode cL_law 1064 = .ok (.iadd, 1) := by decide +kernel
theorem dL_law_1065 : decode cL_law 1065 = .ok (.iaload, 1) := by decide +kernel
theorem dL_law_1066 : decode cL_law 1066 = .ok (.invokevirtual 137, 3) := by decide +kernel
theorem dL_law_1069 : decode cL_law 1069 = .ok (.if_icmp .eq 225, 3) := by decide +kernel
theorem dL_law_1072 : decode cL_law 1072 = .ok (.iconst 0, 1) := by decide +kernel
theorem dL_law_1073 : decode cL_law 1073 = .ok (.ireturn, 1) := by decide +kernel
theorem dL_law_1074 : decode cL_law 1074 = .ok (.aload_n 1, 1) := by decide +kernel
theorem dL_law_1075 : decode cL_law 1075 = .ok (.invokevirtual 138, 3) := by decide +kernel
theorem dL_law_1078 : decode cL_law 1078 = .ok (.aload_n 2, 1) := by decide +kernel
theorem dL_law_1079 : decode cL_law 1079 = .ok (.invokevirtual 141, 3) := by decide +kernel
theorem dL_law_1082 : decode cL_law 1082 = .ok (.if_icmp .eq 212, 3) := by decide +kernel
theorem dL_law_1085 : decode cL_law 1085 = .ok (.iconst 0, 1) := by decide +kernel
theorem dL_law_1086 : decode cL_law 1086 = .ok (.ireturn, 1) := by decide +kernel
theorem dL_law_1087 : decode cL_law 1087 = .ok (.aload_n 1, 1) := by decide +kernel
theorem dL_law_1088 : decode cL_law 1088 = .ok (.aload_n 0, 1) := by decide +kernel
theorem dL_law_1089 : decode cL_law 1089 = .ok (.iload_n 3, 1) := by decide +kernel
theorem dL_law_1090 : decode cL_law 1090 = .ok (.iconst 1, 1) := by decide +kernel
theorem dL_law_1091 : decode cL_law 1091 = .ok (.iadd, 1) := by decide +kernel
theorem dL_law_1092 : decode cL_law 1092 = .ok (.iaload, 1) := by decide +kernel
theorem dL_law_1093 : decode cL_law 1093 = .ok (.aload_n 0, 1) := by decide +kernel
theorem dL_law_1094 : decode cL_law 1094 = .ok (.iload_n 3, 1) := by decide +kernel
theorem dL_law_1095 : decode cL_law 1095 = .ok (.iconst 2, 1) := by decide +kernel
theorem dL_law_1096 : decode cL_law 1096 = .ok (.iadd, 1) := by decide +kernel
theorem dL_law_1097 : decode cL_law 1097 = .ok (.iaload, 1) := by decide +kernel
theorem dL_law_1098 : decode cL_law 1098 = .ok (.invokevirtual 142, 3) := by decide +kernel
theorem dL_law_1101 : decode cL_law 1101 = .ok (.aload_n 2, 1) := by decide +kernel
theorem dL_law_1102 : decode cL_law 1102 = .ok (.aload_n 0, 1) := by decide +kernel
theorem dL_law_1103 : decode cL_law 1103 = .ok (.iload_n 3, 1) := by decide +kernel
theorem dL_law_1104 : decode cL_law 1104 = .ok (.iconst 1, 1) := by decide +kernel
theorem dL_law_1105 : decode cL_law 1105 = .ok (.iadd, 1) := by decide +kernel
theorem dL_law_1106 : decode cL_law 1106 = .ok (.iaload, 1) := by decide +kernel
theorem dL_law_1107 : decode cL_law 1107 = .ok (.aload_n 0, 1) := by decide +kernel
theorem dL_law_1108 : decode cL_law 1108 = .ok (.iload_n 3, 1) := by decide +kernel
theorem dL_law_1109 : decode cL_law 1109 = .ok (.iconst 2, 1) := by decide +kernel
theorem dL_law_1110 : decode cL_law 1110 = .ok (.iadd, 1) := by decide +kernel
theorem dL_law_1111 : decode cL_law 1111 = .ok (.iaload, 1) := by decide +kernel
theorem dL_law_1112 : decode cL_law 1112 = .ok (.invokevirtual 145, 3) := by decide +kernel
theorem dL_law_1115 : decode cL_law 1115 = .ok (.if_icmp .eq 179, 3) := by decide +kernel
theorem dL_law_1118 : decode cL_law 1118 = .ok (.iconst 0, 1) := by decide +kernel
theorem dL_law_1119 : decode cL_law 1119 = .ok (.ireturn, 1) := by decide +kernel
theorem dL_law_1120 : decode cL_law 1120 = .ok (.aload_n 1, 1) := by decide +kernel
theorem dL_law_1121 : decode cL_law 1121 = .ok (.aload_n 0, 1) := by decide +kernel
theorem dL_law_1122 : decode cL_law 1122 = .ok (.iload_n 3, 1) := by decide +kernel
theorem dL_law_1123 : decode cL_law 1123 = .ok (.iconst 1, 1) := by decide +kernel
theorem dL_law_1124 : decode cL_law 1124 = .ok (.iadd, 1) := by decide +kernel
theorem dL_law_1125 : decode cL_law 1125 = .ok (.iaload, 1) := by decide +kernel
theorem dL_law_1126 : decode cL_law 1126 = .ok (.aload_n 0, 1) := by decide +kernel
theorem dL_law_1127 : decode cL_law 1127 = .ok (.iload_n 3, 1) := by decide +kernel
theorem dL_law_1128 : decode cL_law 1128 = .ok (.iconst 2, 1) := by decide +kernel
theorem dL_law_1129 : decode cL_law 1129 = .ok (.iadd, 1) := by decide +kernel
theorem dL_law_1130 : decode cL_law 1130 = .ok (.iaload, 1) := by decide +kernel
theorem dL_law_1131 : decode cL_law 1131 = .ok (.invokevirtual 146, 3) := by decide +kernel
theorem dL_law_1134 : decode cL_law 1134 = .ok (.aload_n 2, 1) := by decide +kernel
theorem dL_law_1135 : decode cL_law 1135 = .ok (.aload_n 0, 1) := by decide +kernel
theorem dL_law_1136 : decode cL_law 1136 = .ok (.iload_n 3, 1) := by decide +kernel
theorem dL_law_1137 : decode cL_law 1137 = .ok (.iconst 1, 1) := by decide +kernel
theorem dL_law_1138 : decode cL_law 1138 = .ok (.iadd, 1) := by decide +kernel
theorem dL_law_1139 : decode cL_law 1139 = .ok (.iaload, 1) := by decide +kernel
theorem dL_law_1140 : decode cL_law 1140 = .ok (.aload_n 0, 1) := by decide +kernel
theorem dL_law_1141 : decode cL_law 1141 = .ok (.iload_n 3, 1) := by decide +kernel
theorem dL_law_1142 : decode cL_law 1142 = .ok (.iconst 2, 1) := by decide +kernel
theorem dL_law_1143 : decode cL_law 1143 = .ok (.iadd, 1) := by decide +kernel
theorem dL_law_1144 : decode cL_law 1144 = .ok (.iaload, 1) := by decide +kernel
theorem dL_law_1145 : decode cL_law 1145 = .ok (.invokevirtual 149, 3) := by decide +kernel
theorem dL_law_1148 : decode cL_law 1148 = .ok (.if_icmp .eq 146, 3) := by decide +kernel
theorem dL_law_1151 : decode cL_law 1151 = .ok (.iconst 0, 1) := by decide +kernel
theorem dL_law_1152 : decode cL_law 1152 = .ok (.ireturn, 1) := by decide +kernel
theorem dL_law_1153 : decode cL_law 1153 = .ok (.aload_n 1, 1) := by decide +kernel
theorem dL_law_1154 : decode cL_law 1154 = .ok (.aload_n 0, 1) := by decide +kernel
theorem dL_law_1155 : decode cL_law 1155 = .ok (.iload_n 3, 1) := by decide +kernel
theorem dL_law_1156 : decode cL_law 1156 = .ok (.iconst 1, 1) := by decide +kernel
theorem dL_law_1157 : decode cL_law 1157 = .ok (.iadd, 1) := by decide +kernel
theorem dL_law_1158 : decode cL_law 1158 = .ok (.iaload, 1) := by decide +kernel
theorem dL_law_1159 : decode cL_law 1159 = .ok (.aload_n 0, 1) := by decide +kernel
theorem dL_law_1160 : decode cL_law 1160 = .ok (.iload_n 3, 1) := by decide +kernel
theorem dL_law_1161 : decode cL_law 1161 = .ok (.iconst 2, 1) := by decide +kernel
theorem dL_law_1162 : decode cL_law 1162 = .ok (.iadd, 1) := by decide +kernel
theorem dL_law_1163 : decode cL_law 1163 = .ok (.iaload, 1) := by decide +kernel
theorem dL_law_1164 : decode cL_law 1164 = .ok (.invokevirtual 150, 3) := by decide +kernel
theorem dL_law_1167 : decode cL_law 1167 = .ok (.aload_n 2, 1) := by decide +kernel
theorem dL_law_1168 : decode cL_law 1168 = .ok (.aload_n 0, 1) := by decide +kernel
theorem dL_law_1169 : decode cL_law 1169 = .ok (.iload_n 3, 1) := by decide +kernel
theorem dL_law_1170 : decode cL_law 1170 = .ok (.iconst 1, 1) := by decide +kernel
theorem dL_law_1171 : decode cL_law 1171 = .ok (.iadd, 1) := by decide +kernel
theorem dL_law_1172 : decode cL_law 1172 = .ok (.iaload, 1) := by decide +kernel
theorem dL_law_1173 : decode cL_law 1173 = .ok (.aload_n 0, 1) := by decide +kernel
theorem dL_law_1174 : decode cL_law 1174 = .ok (.iload_n 3, 1) := by decide +kernel
theorem dL_law_1175 : decode cL_law 1175 = .ok (.iconst 2, 1) := by decide +kernel
theorem dL_law_1176 : decode cL_law 1176 = .ok (.iadd, 1) := by decide +kernel
theorem dL_law_1177 : decode cL_law 1177 = .ok (.iaload, 1) := by decide +kernel
theorem dL_law_1178 : decode cL_law 1178 = .ok (.invokevirtual 153, 3) := by decide +kernel
theorem dL_law_1181 : decode cL_law 1181 = .ok (.if_icmp .eq 113, 3) := by decide +kernel
theorem dL_law_1184 : decode cL_law 1184 = .ok (.iconst 0, 1) := by decide +kernel
theorem dL_law_1185 : decode cL_law 1185 = .ok (.ireturn, 1) := by decide +kernel
theorem dL_law_1186 : decode cL_law 1186 = .ok (.aload_n 1, 1) := by decide +kernel
theorem dL_law_1187 : decode cL_law 1187 = .ok (.aload_n 0, 1) := by decide +kernel
theorem dL_law_1188 : decode cL_law 1188 = .ok (.iload_n 3, 1) := by decide +kernel
theorem dL_law_1189 : decode cL_law 1189 = .ok (.iconst 1, 1) := by decide +kernel
theorem dL_law_1190 : decode cL_law 1190 = .ok (.iadd, 1) := by decide +kernel
theorem dL_law_1191 : decode cL_law 1191 = .ok (.iaload, 1) := by decide +kernel
theorem dL_law_1192 : decode cL_law 1192 = .ok (.aload_n 0, 1) := by decide +kernel
theorem dL_law_1193 : decode cL_law 1193 = .ok (.iload_n 3, 1) := by decide +kernel
theorem dL_law_1194 : decode cL_law 1194 = .ok (.iconst 2, 1) := by decide +kernel
theorem dL_law_1195 : decode cL_law 1195 = .ok (.iadd, 1) := by decide +kernel
theorem dL_law_1196 : decode cL_law 1196 = .ok (.iaload, 1) := by decide +kernel
theorem dL_law_1197 : decode cL_law 1197 = .ok (.invokevirtual 154, 3) := by decide +kernel
theorem dL_law_1200 : decode cL_law 1200 = .ok (.aload_n 2, 1) := by decide +kernel
theorem dL_law_1201 : decode cL_law 1201 = .ok (.aload_n 0, 1) := by decide +kernel
theorem dL_law_1202 : decode cL_law 1202 = .ok (.iload_n 3, 1) := by decide +kernel
theorem dL_law_1203 : decode cL_law 1203 = .ok (.iconst 1, 1) := by decide +kernel
theorem dL_law_1204 : decode cL_law 1204 = .ok (.iadd, 1) := by decide +kernel
theorem dL_law_1205 : decode cL_law 1205 = .ok (.iaload, 1) := by decide +kernel
theorem dL_law_1206 : decode cL_law 1206 = .ok (.aload_n 0, 1) := by decide +kernel
theorem dL_law_1207 : decode cL_law 1207 = .ok (.iload_n 3, 1) := by decide +kernel
theorem dL_law_1208 : decode cL_law 1208 = .ok (.iconst 2, 1) := by decide +kernel
theorem dL_law_1209 : decode cL_law 1209 = .ok (.iadd, 1) := by decide +kernel
theorem dL_law_1210 : decode cL_law 1210 = .ok (.iaload, 1) := by decide +kernel
theorem dL_law_1211 : decode cL_law 1211 = .ok (.invokevirtual 157, 3) := by decide +kernel
theorem dL_law_1214 : decode cL_law 1214 = .ok (.if_icmp .eq 80, 3) := by decide +kernel
theorem dL_law_1217 : decode cL_law 1217 = .ok (.iconst 0, 1) := by decide +kernel
theorem dL_law_1218 : decode cL_law 1218 = .ok (.ireturn, 1) := by decide +kernel
theorem dL_law_1219 : decode cL_law 1219 = .ok (.aload_n 1, 1) := by decide +kernel
theorem dL_law_1220 : decode cL_law 1220 = .ok (.aload_n 0, 1) := by decide +kernel
theorem dL_law_1221 : decode cL_law 1221 = .ok (.iload_n 3, 1) := by decide +kernel
theorem dL_law_1222 : decode cL_law 1222 = .ok (.iconst 1, 1) := by decide +kernel
theorem dL_law_1223 : decode cL_law 1223 = .ok (.iadd, 1) := by decide +kernel
theorem dL_law_1224 : decode cL_law 1224 = .ok (.iaload, 1) := by decide +kernel
theorem dL_law_1225 : decode cL_law 1225 = .ok (.invokevirtual 158, 3) := by decide +kernel
theorem dL_law_1228 : decode cL_law 1228 = .ok (.aload_n 2, 1) := by decide +kernel
theorem dL_law_1229 : decode cL_law 1229 = .ok (.aload_n 0, 1) := by decide +kernel
theorem dL_law_1230 : decode cL_law 1230 = .ok (.iload_n 3, 1) := by decide +kernel
theorem dL_law_1231 : decode cL_law 1231 = .ok (.iconst 1, 1) := by decide +kernel
theorem dL_law_1232 : decode cL_law 1232 = .ok (.iadd, 1) := by decide +kernel
theorem dL_law_1233 : decode cL_law 1233 = .ok (.iaload, 1) := by decide +kernel
theorem dL_law_1234 : decode cL_law 1234 = .ok (.invokevirtual 161, 3) := by decide +kernel
theorem dL_law_1237 : decode cL_law 1237 = .ok (.if_icmp .eq 57, 3) := by decide +kernel
theorem dL_law_1240 : decode cL_law 1240 = .ok (.iconst 0, 1) := by decide +kernel
theorem dL_law_1241 : decode cL_law 1241 = .ok (.ireturn, 1) := by decide +kernel
theorem dL_law_1242 : decode cL_law 1242 = .ok (.aload_n 1, 1) := by decide +kernel
theorem dL_law_1243 : decode cL_law 1243 = .ok (.invokevirtual 162, 3) := by decide +kernel
theorem dL_law_1246 : decode cL_law 1246 = .ok (.aload_n 2, 1) := by decide +kernel
theorem dL_law_1247 : decode cL_law 1247 = .ok (.invokevirtual 165, 3) := by decide +kernel
theorem dL_law_1250 : decode cL_law 1250 = .ok (.if_icmp .eq 44, 3) := by decide +kernel
theorem dL_law_1253 : decode cL_law 1253 = .ok (.iconst 0, 1) := by decide +kernel
theorem dL_law_1254 : decode cL_law 1254 = .ok (.ireturn, 1) := by decide +kernel
theorem dL_law_1255 : decode cL_law 1255 = .ok (.aload_n 1, 1) := by decide +kernel
theorem dL_law_1256 : decode cL_law 1256 = .ok (.invokevirtual 166, 3) := by decide +kernel
theorem dL_law_1259 : decode cL_law 1259 = .ok (.aload_n 2, 1) := by decide +kernel
theorem dL_law_1260 : decode cL_law 1260 = .ok (.invokevirtual 169, 3) := by decide +kernel
theorem dL_law_1263 : decode cL_law 1263 = .ok (.if_icmp .eq 31, 3) := by decide +kernel
theorem dL_law_1266 : decode cL_law 1266 = .ok (.iconst 0, 1) := by decide +kernel
theorem dL_law_1267 : decode cL_law 1267 = .ok (.ireturn, 1) := by decide +kernel
theorem dL_law_1268 : decode cL_law 1268 = .ok (.aload_n 1, 1) := by decide +kernel
theorem dL_law_1269 : decode cL_law 1269 = .ok (.invokevirtual 170, 3) := by decide +kernel
theorem dL_law_1272 : decode cL_law 1272 = .ok (.aload_n 2, 1) := by decide +kernel
theorem dL_law_1273 : decode cL_law 1273 = .ok (.invokevirtual 173, 3) := by decide +kernel
theorem dL_law_1276 : decode cL_law 1276 = .ok (.if_icmp .eq 18, 3) := by decide +kernel
theorem dL_law_1279 : decode cL_law 1279 = .ok (.iconst 0, 1) := by decide +kernel
theorem dL_law_1280 : decode cL_law 1280 = .ok (.ireturn, 1) := by decide +kernel
theorem dL_law_1281 : decode cL_law 1281 = .ok (.aload_n 1, 1) := by decide +kernel
theorem dL_law_1282 : decode cL_law 1282 = .ok (.invokevirtual 174, 3) := by decide +kernel
theorem dL_law_1285 : decode cL_law 1285 = .ok (.aload_n 2, 1) := by decide +kernel
theorem dL_law_1286 : decode cL_law 1286 = .ok (.invokevirtual 177, 3) := by decide +kernel
theorem dL_law_1289 : decode cL_law 1289 = .ok (.if_icmp .eq 5, 3) := by decide +kernel
theorem dL_law_1292 : decode cL_law 1292 = .ok (.iconst 0, 1) := by decide +kernel
theorem dL_law_1293 : decode cL_law 1293 = .ok (.ireturn, 1) := by decide +kernel
theorem dL_law_1294 : decode cL_law 1294 = .ok (.iinc 3 4, 3) := by decide +kernel
theorem dL_law_1297 : decode cL_law 1297 = .ok (.goto (-1279), 3) := by decide +kernel
theorem dL_law_1300 : decode cL_law 1300 = .ok (.iconst 1, 1) := by decide +kernel
theorem dL_law_1301 : decode cL_law 1301 = .ok (.ireturn, 1) := by decide +kernel
end
section
/-! MY OWN ROWS UNDER EVERY CONTRACT: the words, the world with its frame, contracts of three forms, calls through a part of a world -/
def nws : List Cond := [.fieldLinkNest RX2 29 "LibraryCirculation" "FIRST_VALUES" "[I" "LibraryCirculation", .fieldLinkNest RX4 47 "LibraryCirculation$State" "copies" "LLibraryCirculation$Table;" "LibraryCirculation", .fieldLinkNest RX4 69 "LibraryCirculation$State" "patrons" "LLibraryCirculation$Table;" "LibraryCirculation", .fieldLinkNest RX4 192 "LibraryCirculation$State" "holds" "LLibraryCirculation$Table;" "LibraryCirculation", .fieldLinkNest RX4 244 "LibraryCirculation$State" "ledger" "LLibraryCirculation$Table;" "LibraryCirculation", .fieldLinkNest RX4 72 "LibraryCirculation$State" "settings" "LLibraryCirculation$Table;" "LibraryCirculation", .fieldLinkNest RX4 98 "LibraryCirculation$State" "today" "I" "LibraryCirculation", .methodLinkNest RX4 35 yX0_init "LibraryCirculation"]
theorem nws_on : ∀ w ∈ nws, w.onTables = true := by
  intro w hw
  simp only [nws, List.mem_cons, List.not_mem_nil, or_false] at hw
  rcases hw with rfl | rfl | rfl | rfl | rfl | rfl | rfl | rfl <;> rfl
theorem nws_warm {s U : State} (hW : s.WarmedH U.vm) : ∀ w ∈ nws, va_Nw w s → va_Nw w U := by
  intro w hw h
  simp only [nws, List.mem_cons, List.not_mem_nil, or_false] at hw
  rcases hw with rfl | rfl | rfl | rfl | rfl | rfl | rfl | rfl
  · exact va_Nw.warmF hW h
  · exact va_Nw.warmF hW h
  · exact va_Nw.warmF hW h
  · exact va_Nw.warmF hW h
  · exact va_Nw.warmF hW h
  · exact va_Nw.warmF hW h
  · exact va_Nw.warmF hW h
  · exact va_Nw.warmM hW h
abbrev cyT (cI cS : ClassId) : List (ClassId × FieldType) := [(cI, .int), (cS, .object "LibraryCirculation$State")]
def KN (D : va_G) (cI cS : ClassId) (U : State) : Prop := va_K D vwCl (cyT cI cS) U ∧ ∀ w ∈ nws, va_Nw w U
theorem KN.warm {D : va_G} {cI cS : ClassId} {s U : State} (hW : s.WarmedH U.vm) (h : KN D cI cS s) : KN D cI cS U := ⟨va_K.moved hW.alike h.1, fun w hw => nws_warm hW w hw (h.2 w hw)⟩
theorem KN.call {D : va_G} {cI cS : ClassId} {U : State} (g : JFrame) (mk : MethodId) (a : Array Value) (h : KN D cI cS U) : KN D cI cS (U.calling g mk a) := ⟨va_K.moved (u := U) (U := U.calling g mk a) (Vm.Alike.refl U.vm) h.1, fun w hw => va_Nw.same (u := U) (U := U.calling g mk a) (nws_on w hw) rfl (h.2 w hw)⟩
/-- the world, its frame, its cells apart -/
def Ix (D : va_G) (A : Nat → Prop) (s : State) (w : va_W) (H : Heap) (locs : List Loc) : Prop := va_P D vwCl w H ∧ va_D A w ∧ va_S A s.heap H locs
def Fx (p : Program) (m : MethodId) (c : Code) (nL : Nat) (s : State) (args : Array Value) (own : String) (cc : ByteArray) (D : va_G) (cI cS : ClassId) : Prop :=
  p.tables.exec = Jvm.exec ∧ c.code = cc ∧ c.maxLocals = nL ∧ s.vm.findClass own = some m.cls ∧ (∀ w ∈ wU, w.before args s = true) ∧ KN D cI cS s
def PcW (D : va_G) (cI cS : ClassId) (as : List Value) (w : va_W) (sz : Nat) : Array Value → State → Prop := va_Pc as (fun U => U.heap.size = sz ∧ va_P D vwCl w U.heap ∧ KN D cI cS U ∧ va_D (fun _ => True) w)
def QcI {S : Type} (post : Int32 → S → Prop) (wf : S → va_W) (D : va_G) (w0 : va_W) (sz : Nat) : Array Value → State → Outcome → State → Prop := va_Qi post (fun u t => va_P D vwCl (wf u) t.heap ∧ va_D (va_A w0 sz) (wf u)) (va_A w0 sz)
def QcV {S : Type} (post : S → Prop) (wf : S → va_W) (D : va_G) (w0 : va_W) (sz : Nat) : Array Value → State → Outcome → State → Prop := va_Qv post (fun u t => va_P D vwCl (wf u) t.heap ∧ va_D (va_A w0 sz) (wf u)) (va_A w0 sz)
/-- a contract with an int (or boolean) answer; without answer -/
def MI {S : Type} (l : Launch) (y : MethodName) (cc : ByteArray) (nL : Nat) (ret : Option FieldType) (rm : Room) (D : va_G) (cI cS : ClassId) (as : List Value) (w0 : va_W) (wf : S → va_W) (post : Int32 → S → Prop) : Prop :=
  ∀ sz, Met l y (Cond.code y cc nL ret :: wU) rm (PcW D cI cS as w0 sz) (QcI post wf D w0 sz) 0 0 (va_A w0 sz)
def MV {S : Type} (l : Launch) (y : MethodName) (cc : ByteArray) (nL : Nat) (rm : Room) (D : va_G) (cI cS : ClassId) (as : List Value) (w0 : va_W) (wf : S → va_W) (post : S → Prop) : Prop :=
  ∀ sz, Met l y (Cond.code y cc nL none :: wU) rm (PcW D cI cS as w0 sz) (QcV post wf D w0 sz) 0 0 (va_A w0 sz)
set_option maxHeartbeats 4000000 in
theorem MI.mk {S : Type} {l : Launch} {y : MethodName} {cc : ByteArray} {nL : Nat} {ret : Option FieldType} {rm : Room} {D : va_G} {cI cS : ClassId} {as : List Value} {w0 : va_W} {wf : S → va_W} {post : Int32 → S → Prop}
    (own : String) (ho : y.cls = own) (rt : FieldType) (hret : ret = some rt) (hy : plainName y.cls = true) (hnl : (lg_sl as).length ≤ nL) (hnar : ∀ r u, post r u → narrow rt (.int r) = .int r)
    (body : ∀ (p : Program) (e : Env) (s : State) (m : MethodId) (args : Array Value) (below : List Frame) (meth : Method) (c : Code) (A : Nat → Prop) (Q : State → Prop) (ls : Array Slot),
      Fx p m c nL s args own cc D cI cS → meth.name = y.name → (∀ q, s.heap.size ≤ q → A q) → Ix D A s w0 s.heap [] →
      (∀ (r : Int32) (u : S) (H : Heap) (locs : List Loc) (pc : Nat) (ls : Array Slot), post r u → Ix D A s (wf u) H locs → decode cc pc = .ok (.ireturn, 1) → W p l e rm s m args below meth c H locs 0 0 Q (F0 m pc ls [.int r])) →
      lv_has ls nL (lv_args 0 as) → W p l e rm s m args below meth c s.heap [] 0 0 Q (F0 m 0 ls [])) : MI l y cc nL ret rm D cI cS as w0 wf post := by
  subst ho
  intro sz
  refine Met.ofW (cc := cc) (maxL := nL) (ret := ret) hy rfl ?_
  intro p e s m args below meth c s₁ B hml hv
  obtain ⟨rfl, hsz, hP, hK, hD0⟩ := hv
  subst hsz
  have hts := atoms_spec (ws := Cond.code y cc nL ret :: wU) B.pre
  have hD := hD0.self (sz := s.heap.size)
  rw [lg_entry_eq]
  refine body p e s m as.toArray below meth c (va_A w0 s.heap.size) _ _ ⟨B.exec, B.bytes, hml, findClass_of_methodNamed B.named, fun w hw => hts w (List.mem_cons_of_mem _ hw), hK⟩ (name_of_methodNamed B.named B.method).1 (fun q h => Or.inr h) ⟨hP, hD, va_S.rf⟩ ?_ (lv_entry as hnl)
  intro r u H locs pc ls hp Z hdg
  exact W.zret B.exec B.bytes (by rw [B.returns, hret]) (hnar r u hp) (fun t ht hW => ⟨⟨r, u, rfl, hp, by rw [ht]; exact Z.1, Z.2.1⟩, Z.2.2.F ht⟩) Z.2.2.2.2 hdg B.notSynchronized
set_option maxHeartbeats 4000000 in
theorem MV.mk {S : Type} {l : Launch} {y : MethodName} {cc : ByteArray} {nL : Nat} {rm : Room} {D : va_G} {cI cS : ClassId} {as : List Value} {w0 : va_W} {wf : S → va_W} {post : S → Prop}
    (own : String) (ho : y.cls = own) (hy : plainName y.cls = true) (hnl : (lg_sl as).length ≤ nL)
    (body : ∀ (p : Program) (e : Env) (s : State) (m : MethodId) (args : Array Value) (below : List Frame) (meth : Method) (c : Code) (A : Nat → Prop) (Q : State → Prop) (ls : Array Slot),
      Fx p m c nL s args own cc D cI cS → meth.name = y.name → (∀ q, s.heap.size ≤ q → A q) → Ix D A s w0 s.heap [] →
      (∀ (u : S) (H : Heap) (locs : List Loc) (pc : Nat) (ls : Array Slot), post u → Ix D A s (wf u) H locs → decode cc pc = .ok (.return_, 1) → W p l e rm s m args below meth c H locs 0 0 Q (F0 m pc ls [])) →
      lv_has ls nL (lv_args 0 as) → W p l e rm s m args below meth c s.heap [] 0 0 Q (F0 m 0 ls [])) : MV l y cc nL rm D cI cS as w0 wf post := by
  subst ho
  intro sz
  refine Met.ofW (cc := cc) (maxL := nL) (ret := none) hy rfl ?_
  intro p e s m args below meth c s₁ B hml hv
  obtain ⟨rfl, hsz, hP, hK, hD0⟩ := hv
  subst hsz
  have hts := atoms_spec (ws := Cond.code y cc nL none :: wU) B.pre
  have hD := hD0.self (sz := s.heap.size)
  rw [lg_entry_eq]
  refine body p e s m as.toArray below meth c (va_A w0 s.heap.size) _ _ ⟨B.exec, B.bytes, hml, findClass_of_methodNamed B.named, fun w hw => hts w (List.mem_cons_of_mem _ hw), hK⟩ (name_of_methodNamed B.named B.method).1 (fun q h => Or.inr h) ⟨hP, hD, va_S.rf⟩ ?_ (lv_entry as hnl)
  intro u H locs pc ls hp Z hdg
  exact W.vret B.exec B.bytes B.returns (fun t ht hW => ⟨⟨u, rfl, hp, by rw [ht]; exact Z.1, Z.2.1⟩, Z.2.2.F ht⟩) Z.2.2.2.2 hdg B.notSynchronized
/-- a world in another order, or a part of it, with a tail -/
theorem Ix.subP {D : va_G} {A : Nat → Prop} {s : State} {w w' R : va_W} {H : Heap} {locs : List Loc} (Z : Ix D A s (w ++ R) H locs) (is : List Nat) (hn : va_nd is = true) (hs : is.map (fun i => w[i]?) = w'.map some) : Ix D A s (w' ++ R) H locs := by
  obtain ⟨hP, hD, hS⟩ := Z
  have key : ∀ (k : Nat) (q : Nat × va_E), w'[k]? = some q → ∃ i, is[k]? = some i ∧ w[i]? = some q := by
    intro k q hk
    have h1 : (is.map (fun i => w[i]?))[k]? = some (some q) := by rw [hs, List.getElem?_map, hk]; rfl
    rw [List.getElem?_map] at h1
    cases hi : is[k]? with
    | none => rw [hi] at h1; cases h1
    | some i => rw [hi] at h1; exact ⟨i, rfl, Option.some.inj h1⟩
  have inl : ∀ (i : Nat) (q : Nat × va_E), w[i]? = some q → (w ++ R)[i]? = some q := fun i q h => by rw [List.getElem?_append_left (List.getElem?_eq_some_iff.mp h).1]; exact h
  have sp : ∀ (k : Nat) (q : Nat × va_E), (w' ++ R)[k]? = some q → (∃ i, is[k]? = some i ∧ (w ++ R)[i]? = some q ∧ i < w.length ∧ k < w'.length) ∨ (w'.length ≤ k ∧ (w ++ R)[w.length + (k - w'.length)]? = some q) := by
    intro k q hk
    by_cases hl : k < w'.length
    · rw [List.getElem?_append_left hl] at hk
      obtain ⟨i, h1, h2⟩ := key k q hk
      exact Or.inl ⟨i, h1, inl i q h2, (List.getElem?_eq_some_iff.mp h2).1, hl⟩
    · rw [List.getElem?_append_right (Nat.le_of_not_lt hl)] at hk
      refine Or.inr ⟨Nat.le_of_not_lt hl, ?_⟩
      rw [List.getElem?_append_right (Nat.le_add_right _ _), Nat.add_sub_cancel_left]
      exact hk
  refine ⟨fun k q hk => ?_, ⟨fun i j x y hi hj hxy => ?_, fun k q hk => ?_⟩, hS⟩
  · rcases sp k q hk with ⟨i, -, h2, -⟩ | ⟨-, h2⟩
    · exact hP i q h2
    · exact hP _ q h2
  · rcases sp i x hi with ⟨a, h1, h2, l1, k1⟩ | ⟨k1, h2⟩ <;> rcases sp j y hj with ⟨b, h3, h4, l2, k2⟩ | ⟨k2, h4⟩
    · have hab := hD.1 a b x y h2 h4 hxy
      subst hab
      exact va_nd_inj is hn i j a h1 h3
    · have := hD.1 _ _ x y h2 h4 hxy
      omega
    · have := hD.1 _ _ x y h2 h4 hxy
      omega
    · have := hD.1 _ _ x y h2 h4 hxy
      omega
  · rcases sp k q hk with ⟨i, -, h2, -⟩ | ⟨-, h2⟩
    · exact hD.2 i q h2
    · exact hD.2 _ q h2
theorem Ix.sub {D : va_G} {A : Nat → Prop} {s : State} {w w' : va_W} {H : Heap} {locs : List Loc} (Z : Ix D A s w H locs) (is : List Nat) (hn : va_nd is = true) (hs : is.map (fun i => w[i]?) = w'.map some) : Ix D A s w' H locs := by
  have h := Ix.subP (R := []) (w := w) (w' := w') (by rw [List.append_nil]; exact Z) is hn hs
  rwa [List.append_nil] at h
theorem Ix.cat {D : va_G} {A : Nat → Prop} {s : State} {wc wr w1 : va_W} {H H1 : Heap} {locs locs1 : List Loc} (Z : Ix D A s (wc ++ wr) H locs) (hk : ∀ q : Nat, q < H.size → ¬ va_A wc H.size q → H1[q]? = H[q]?) (hF : ∀ q, va_A wc H.size q → A q) (hP1 : va_P D vwCl w1 H1) (hD1 : va_D (va_A wc H.size) w1) (hS : va_S A s.heap H1 locs1) : Ix D A s (w1 ++ wr) H1 locs1 := by
  obtain ⟨hP, hD, -⟩ := Z
  have inr : ∀ (k : Nat) (q : Nat × va_E), wr[k]? = some q → (wc ++ wr)[wc.length + k]? = some q := fun k q h => by
    rw [List.getElem?_append_right (Nat.le_add_right _ _), Nat.add_sub_cancel_left]; exact h
  have apart : ∀ (k : Nat) (q : Nat × va_E), wr[k]? = some q → q.1 < H.size ∧ ¬ va_A wc H.size q.1 := by
    intro k q hq
    have h2 := inr k q hq
    have hl := (hP _ q h2).lt
    refine ⟨hl, fun h => ?_⟩
    rcases h with ⟨k2, e, h⟩ | h
    · have hlt := (List.getElem?_eq_some_iff.mp h).1
      have h4 : (wc ++ wr)[k2]? = some (q.1, e) := by rw [List.getElem?_append_left hlt]; exact h
      have := hD.1 _ _ q (q.1, e) h2 h4 rfl
      omega
    · omega
  have hPr : va_P D vwCl wr H1 := fun k q hq => by
    obtain ⟨g1, g2⟩ := apart k q hq
    exact (hP _ q (inr k q hq)).kept (hk q.1 g1 g2)
  have hDr : va_D A wr := ⟨fun i j x y hi hj hxy => by have := hD.1 _ _ x y (inr i x hi) (inr j y hj) hxy; omega, fun k q hq => hD.2 _ q (inr k q hq)⟩
  exact ⟨va_P.app hP1 hPr, va_D.app (hD1.weaken (fun k q _ h => hF q.1 h)) hDr (fun i j x y hx hy hxy => (apart j y hy).2 (by rw [← hxy]; exact hD1.2 i x hx)), hS⟩
/-- a part of a world that a call may change, and how the whole comes back -/
def Lens {S : Type} (D : va_G) (A : Nat → Prop) (s : State) (w : va_W) (wcf : S → va_W) (u0 : S) (back : S → va_W) : Prop := ∃ wr : va_W,
  (∀ H locs, Ix D A s w H locs → Ix D A s (wcf u0 ++ wr) H locs) ∧ (∀ H locs, Ix D A s (wcf u0 ++ wr) H locs → Ix D A s w H locs) ∧ ∀ u H locs, Ix D A s (wcf u ++ wr) H locs → Ix D A s (back u) H locs
theorem Lens.tail {S : Type} {D : va_G} {A : Nat → Prop} {s : State} {wcf : S → va_W} {u0 : S} (R : va_W) : Lens D A s (wcf u0 ++ R) wcf u0 (fun u => wcf u ++ R) := ⟨R, fun _ _ h => h, fun _ _ h => h, fun _ _ _ h => h⟩
theorem Lens.all {S : Type} {D : va_G} {A : Nat → Prop} {s : State} {wcf : S → va_W} {u0 : S} : Lens D A s (wcf u0) wcf u0 wcf := ⟨[], fun _ _ h => by rw [List.append_nil]; exact h, fun _ _ h => by rw [List.append_nil] at h; exact h, fun _ _ _ h => by rw [List.append_nil] at h; exact h⟩
theorem Lens.none {D : va_G} {A : Nat → Prop} {s : State} {w : va_W} : Lens D A s w (fun _ : Unit => ([] : va_W)) () (fun _ => w) := ⟨w, fun _ _ h => h, fun _ _ h => h, fun _ _ _ h => h⟩
/-- what a method's name brings to a call -/
def WdV (C : String) (y : MethodName) (cc : ByteArray) (nL : Nat) (ret : Option FieldType) (n : Nat) : Prop := .instanceMethod y ∈ wU ∧ .selects C y y ∈ wU ∧ .initialized C ∈ wU ∧ .code y cc nL ret ∈ wU ∧ (y.cls = C ∧ y.cls ≠ "java/lang/invoke/MethodHandle" ∧ y.cls ≠ "java/lang/invoke/VarHandle" ∧ (parseMethodDescriptor y.desc).map (fun d => d.parameters.length) = some n)
def WdS (C : String) (y : MethodName) (cc : ByteArray) (nL : Nat) (ret : Option FieldType) (n : Nat) : Prop := .static y ∈ wU ∧ .initialized C ∈ wU ∧ .code y cc nL ret ∈ wU ∧ (y.cls = C ∧ y.cls ≠ "java/lang/invoke/MethodHandle" ∧ y.cls ≠ "java/lang/invoke/VarHandle" ∧ (parseMethodDescriptor y.desc).map (fun d => d.parameters.length) = some n)
theorem gU_all {y : MethodName} {cc : ByteArray} {nL : Nat} {ret : Option FieldType} (hc : Cond.code y cc nL ret ∈ wU) : GoodIn wU (Cond.code y cc nL ret :: wU) := by
  intro w hw
  rcases List.mem_cons.mp hw with rfl | h
  · exact ⟨hc, good_of_word (wU_good hc)⟩
  · exact ⟨h, good_of_word (wU_good h)⟩
theorem gU_V {own C : String} {idx : Nat} {y : MethodName} {cc : ByteArray} {nL n : Nat} {ret : Option FieldType} (hl : Cond.methodLink own idx y ∈ wU) (V : WdV C y cc nL ret n) : GoodIn wU (wsV own idx C y (Cond.code y cc nL ret :: wU)) := by
  intro w hw
  obtain ⟨v1, v2, v3, v4, -⟩ := V
  rcases List.mem_append.mp hw with h | h
  · have : w ∈ wU := by
      simp only [List.mem_cons, List.not_mem_nil, or_false] at h
      rcases h with rfl | rfl | rfl | rfl <;> assumption
    exact ⟨this, good_of_word (wU_good this)⟩
  · exact gU_all v4 w h
theorem gU_S {own : String} {idx : Nat} {y : MethodName} {cc : ByteArray} {nL n : Nat} {ret : Option FieldType} (hl : Cond.methodLink own idx y ∈ wU) (V : WdS own y cc nL ret n) : GoodIn wU (wsS own idx y (Cond.code y cc nL ret :: wU)) := by
  intro w hw
  obtain ⟨v1, v2, v3, -⟩ := V
  rcases List.mem_append.mp hw with h | h
  · have : w ∈ wU := by
      simp only [List.mem_cons, List.not_mem_nil, or_false] at h
      rcases h with rfl | rfl | rfl <;> assumption
    exact ⟨this, good_of_word (wU_good this)⟩
  · exact gU_all v3 w h
theorem PcW.blind {D : va_G} {cI cS : ClassId} {as : List Value} {w : va_W} {sz : Nat} : FrameBlind (PcW D cI cS as w sz) := fun a _ g mk q => by obtain ⟨q0, q1, qP, qK, qD⟩ := q; exact ⟨q0, q1, qP, KN.call g mk a qK, qD⟩
section KL
variable {p : Program} {l : Launch} {e : Env} {R : Room} {s : State} {m : MethodId} {args : Array Value} {below : List Frame} {meth : Method} {c : Code} {H : Heap} {locs : List Loc} {cells slots : Nat} {Q : State → Prop}
variable {lv : List (Nat × Value)} {nL : Nat} {own : String} {cc : ByteArray} {D : va_G} {cI cS : ClassId} {A : Nat → Prop} {w : va_W} {pc : Nat} {ls : Array Slot} {st rest As : List Value} {b : Nat} {C : String} {y : MethodName} {cy : ByteArray} {nY n idx : Nat} {ret : Option FieldType} {rm : Room}
theorem Ix.fst {D : va_G} {A : Nat → Prop} {s : State} {wc wr : va_W} {H : Heap} {locs : List Loc} (Z : Ix D A s (wc ++ wr) H locs) : va_P D vwCl wc H ∧ va_D A wc := by
  have inl : ∀ (i : Nat) (q : Nat × va_E), wc[i]? = some q → (wc ++ wr)[i]? = some q := fun i q h => by rw [List.getElem?_append_left (List.getElem?_eq_some_iff.mp h).1]; exact h
  exact ⟨fun k q h => Z.1 k q (inl k q h), ⟨fun i j x y hi hj hxy => Z.2.1.1 i j x y (inl i x hi) (inl j y hj) hxy, fun k q h => Z.2.1.2 k q (inl k q h)⟩⟩
theorem Ix.free {D : va_G} {A : Nat → Prop} {s : State} {wc wr : va_W} {H : Heap} {locs : List Loc} (Z : Ix D A s (wc ++ wr) H locs) (hA : ∀ q, s.heap.size ≤ q → A q) : ∀ q, va_A wc H.size q → A q := by
  intro q h
  rcases h with ⟨k, e, h⟩ | h
  · exact Z.fst.2.2 k (q, e) h
  · exact hA q (Nat.le_trans Z.2.2.1 h)
/-- the call, any of the two forms, with an int answer -/
theorem kcallI {S : Type} {wcf : S → va_W} {wr : va_W} {u0 : S} {post : Int32 → S → Prop} (F : Fx p m c nL s args own cc D cI cS) (hA : ∀ q, s.heap.size ≤ q → A q) (Z : Ix D A s (wcf u0 ++ wr) H locs)
    (run : ∀ (sz : Nat), H.size = sz → (∀ U : State, U.heap = H → s.WarmedH U.vm → PcW D cI cS As (wcf u0) sz As.toArray U) → va_Run p l e R s m args below meth c H locs cells slots 0 0 (F0 m pc ls st) rest (QcI post wcf D (wcf u0) sz As.toArray) (va_A (wcf u0) sz))
    (kk : ∀ (r : Int32) (u : S) (H1 : Heap) (locs1 : List Loc), post r u → Ix D A s (wcf u ++ wr) H1 locs1 → W p l e R s m args below meth c H1 locs1 cells slots Q (F0 m (pc + 3) ls (.int r :: rest))) : W p l e R s m args below meth c H locs cells slots Q (F0 m pc ls st) := by
  have hFc := Z.free hA
  refine va_calli (run H.size rfl (fun U hU hW => ⟨rfl, by rw [hU], by rw [hU]; exact Z.fst.1, F.2.2.2.2.2.warm hW, Z.fst.2.weaken (fun _ _ _ _ => trivial)⟩)) Z.2.2 (fun q _ h => hFc q h) hFc (fun r u t H1 locs1 ht hvm hw hB hz1 hk1 hS => ?_)
  obtain ⟨hP1, hD1⟩ := hB
  rw [ht] at hP1
  exact kk r u H1 locs1 hw (Z.cat hk1 hFc hP1 hD1 hS)
theorem kcallV {S : Type} {wcf : S → va_W} {wr : va_W} {u0 : S} {post : S → Prop} (F : Fx p m c nL s args own cc D cI cS) (hA : ∀ q, s.heap.size ≤ q → A q) (Z : Ix D A s (wcf u0 ++ wr) H locs)
    (run : ∀ (sz : Nat), H.size = sz → (∀ U : State, U.heap = H → s.WarmedH U.vm → PcW D cI cS As (wcf u0) sz As.toArray U) → va_Run p l e R s m args below meth c H locs cells slots 0 0 (F0 m pc ls st) rest (QcV post wcf D (wcf u0) sz As.toArray) (va_A (wcf u0) sz))
    (kk : ∀ (u : S) (H1 : Heap) (locs1 : List Loc), post u → Ix D A s (wcf u ++ wr) H1 locs1 → W p l e R s m args below meth c H1 locs1 cells slots Q (F0 m (pc + 3) ls rest)) : W p l e R s m args below meth c H locs cells slots Q (F0 m pc ls st) := by
  have hFc := Z.free hA
  refine va_callv (run H.size rfl (fun U hU hW => ⟨rfl, by rw [hU], by rw [hU]; exact Z.fst.1, F.2.2.2.2.2.warm hW, Z.fst.2.weaken (fun _ _ _ _ => trivial)⟩)) Z.2.2 (fun q _ h => hFc q h) hFc (fun u t H1 locs1 ht hvm hw hB hz1 hk1 hS => ?_)
  obtain ⟨hP1, hD1⟩ := hB
  rw [ht] at hP1
  exact kk u H1 locs1 hw (Z.cat hk1 hFc hP1 hD1 hS)
theorem runV_of {post : Array Value → State → Outcome → State → Prop} {Pc : Array Value → State → Prop} {free : Addr → Prop} (F : Fx p m c nL s args own cc D cI cS) (hM : Met l y (Cond.code y cy nY ret :: wU) rm Pc post 0 0 free) (hbl : FrameBlind Pc) (hl : Cond.methodLink own idx y ∈ wU) (V : WdV C y cy nY ret n) (h0 : rm.cells = 0 ∧ rm.slots = 0)
    (hR : rm.frames + 1 ≤ R.frames ∧ 8 + (nY + 11) + rm.locals ≤ R.locals) (hce : cells ≤ R.cells ∧ slots ≤ R.slots) (hrecv : ∃ cell : Cell, H[b]? = some cell ∧ cell.vm.isStatics = false ∧ s.vm.findClass C = some cell.cls)
    (hn : As.length = n) (hls : ls.size = nL) (hrest : (rest.map fun v => v.category).sum ≤ 8) (hdg : decode cc pc = .ok (.invokevirtual idx, 3)) (hst : st = As.reverse ++ .ref b :: rest) (hp : ∀ U : State, U.heap = H → s.WarmedH U.vm → Pc (Value.ref b :: As).toArray U) : va_Run p l e R s m args below meth c H locs cells slots 0 0 (F0 m pc ls st) rest (post (Value.ref b :: As).toArray) free :=
  va_runV (As := As) (rest := rest) ⟨F.1, F.2.1, F.2.2.1, F.2.2.2.1, F.2.2.2.2.1⟩ hM (cwV n F.2.2.2.2.1 (gU_V hl V) rfl h0.1 h0.2 V.2.2.2.2 hR) ⟨hbl, hrecv, hp⟩ rfl hn hls hst (lv_room (pc := pc) (ls := ls) hrest) hdg hce
theorem runS_of {post : Array Value → State → Outcome → State → Prop} {Pc : Array Value → State → Prop} {free : Addr → Prop} (F : Fx p m c nL s args own cc D cI cS) (hM : Met l y (Cond.code y cy nY ret :: wU) rm Pc post 0 0 free) (hbl : FrameBlind Pc) (hl : Cond.methodLink own idx y ∈ wU) (V : WdS own y cy nY ret n) (h0 : rm.cells = 0 ∧ rm.slots = 0)
    (hR : rm.frames + 1 ≤ R.frames ∧ 8 + (nY + 11) + rm.locals ≤ R.locals) (hce : cells ≤ R.cells ∧ slots ≤ R.slots)
    (hn : As.length = n) (hls : ls.size = nL) (hrest : (rest.map fun v => v.category).sum ≤ 8) (hdg : decode cc pc = .ok (.invokestatic idx, 3)) (hst : st = As.reverse ++ rest) (hp : ∀ U : State, U.heap = H → s.WarmedH U.vm → Pc As.toArray U) : va_Run p l e R s m args below meth c H locs cells slots 0 0 (F0 m pc ls st) rest (post As.toArray) free :=
  va_runS (As := As) (rest := rest) ⟨F.1, F.2.1, F.2.2.1, F.2.2.2.1, F.2.2.2.2.1⟩ hM (cwS n F.2.2.2.2.1 (gU_S hl V) rfl h0.1 h0.2 V.2.2.2 hR) ⟨hbl, hp⟩ rfl hn hls hst (lv_room (pc := pc) (ls := ls) hrest) hdg hce
/-- an instance call through a lens: a reader, one that answers and changes, one that only changes -/
theorem kr_i {S : Type} {wcf back : S → va_W} {u0 : S} {v : Int32} (F : Fx p m c nL s args own cc D cI cS) (hA : ∀ q, s.heap.size ≤ q → A q) (Z : Ix D A s w H locs) (L : Lens D A s w wcf u0 back)
    (hM : MI l y cy nY ret rm D cI cS (.ref b :: As) (wcf u0) wcf (fun r u => r = v ∧ u = u0)) (hl : Cond.methodLink own idx y ∈ wU) (V : WdV C y cy nY ret n) (h0 : rm.cells = 0 ∧ rm.slots = 0) (hR : rm.frames + 1 ≤ R.frames ∧ 8 + (nY + 11) + rm.locals ≤ R.locals) (hce : cells ≤ R.cells ∧ slots ≤ R.slots)
    (q0 ci : Nat) {T : u_T} {N : Nat} {fs : List Value} (hc : vwCl[ci]? = some (C, T, N)) (he : w[q0]? = some (b, .inr (ci, fs))) (hn : As.length = n) (hls : lv_has ls nL lv) (hrest : (rest.map fun v => v.category).sum ≤ 8) (hdg : decode cc pc = .ok (.invokevirtual idx, 3)) (hst : st = As.reverse ++ .ref b :: rest)
    (kk : ∀ (H1 : Heap) (locs1 : List Loc), Ix D A s w H1 locs1 → W p l e R s m args below meth c H1 locs1 cells slots Q (F0 m (pc + 3) ls (.int v :: rest))) : W p l e R s m args below meth c H locs cells slots Q (F0 m pc ls st) := by
  obtain ⟨wr, g1, g2, g3⟩ := L
  refine kcallI (As := .ref b :: As) F hA (g1 _ _ Z) (fun sz hsz hp => runV_of F (hM sz) PcW.blind hl V h0 hR hce (va_recv F.2.2.2.2.2.1 Z.1 hc he) hn hls.1 hrest hdg hst hp) (fun r u H1 locs1 hw Z1 => ?_)
  obtain ⟨rfl, rfl⟩ := hw
  exact kk H1 locs1 (g2 _ _ Z1)
theorem km_i {S : Type} {wcf back : S → va_W} {u0 : S} {ok : S → Prop} {q : Int32 × S} (F : Fx p m c nL s args own cc D cI cS) (hA : ∀ q, s.heap.size ≤ q → A q) (Z : Ix D A s w H locs) (L : Lens D A s w wcf u0 back)
    (hM : MI l y cy nY ret rm D cI cS (.ref b :: As) (wcf u0) wcf (fun r u => r = q.1 ∧ u = q.2 ∧ ok u)) (hl : Cond.methodLink own idx y ∈ wU) (V : WdV C y cy nY ret n) (h0 : rm.cells = 0 ∧ rm.slots = 0) (hR : rm.frames + 1 ≤ R.frames ∧ 8 + (nY + 11) + rm.locals ≤ R.locals) (hce : cells ≤ R.cells ∧ slots ≤ R.slots)
    (q0 ci : Nat) {T : u_T} {N : Nat} {fs : List Value} (hc : vwCl[ci]? = some (C, T, N)) (he : w[q0]? = some (b, .inr (ci, fs))) (hn : As.length = n) (hls : lv_has ls nL lv) (hrest : (rest.map fun v => v.category).sum ≤ 8) (hdg : decode cc pc = .ok (.invokevirtual idx, 3)) (hst : st = As.reverse ++ .ref b :: rest)
    (kk : ∀ (H1 : Heap) (locs1 : List Loc), ok q.2 → Ix D A s (back q.2) H1 locs1 → W p l e R s m args below meth c H1 locs1 cells slots Q (F0 m (pc + 3) ls (.int q.1 :: rest))) : W p l e R s m args below meth c H locs cells slots Q (F0 m pc ls st) := by
  obtain ⟨wr, g1, g2, g3⟩ := L
  refine kcallI (As := .ref b :: As) F hA (g1 _ _ Z) (fun sz hsz hp => runV_of F (hM sz) PcW.blind hl V h0 hR hce (va_recv F.2.2.2.2.2.1 Z.1 hc he) hn hls.1 hrest hdg hst hp) (fun r u H1 locs1 hw Z1 => ?_)
  obtain ⟨rfl, rfl, ho⟩ := hw
  exact kk H1 locs1 ho (g3 _ _ _ Z1)
theorem kv_i {S : Type} {wcf back : S → va_W} {u0 : S} {ok : S → Prop} {q : S} (F : Fx p m c nL s args own cc D cI cS) (hA : ∀ q, s.heap.size ≤ q → A q) (Z : Ix D A s w H locs) (L : Lens D A s w wcf u0 back)
    (hM : MV l y cy nY rm D cI cS (.ref b :: As) (wcf u0) wcf (fun u => u = q ∧ ok u)) (hl : Cond.methodLink own idx y ∈ wU) (V : WdV C y cy nY none n) (h0 : rm.cells = 0 ∧ rm.slots = 0) (hR : rm.frames + 1 ≤ R.frames ∧ 8 + (nY + 11) + rm.locals ≤ R.locals) (hce : cells ≤ R.cells ∧ slots ≤ R.slots)
    (q0 ci : Nat) {T : u_T} {N : Nat} {fs : List Value} (hc : vwCl[ci]? = some (C, T, N)) (he : w[q0]? = some (b, .inr (ci, fs))) (hn : As.length = n) (hls : lv_has ls nL lv) (hrest : (rest.map fun v => v.category).sum ≤ 8) (hdg : decode cc pc = .ok (.invokevirtual idx, 3)) (hst : st = As.reverse ++ .ref b :: rest)
    (kk : ∀ (H1 : Heap) (locs1 : List Loc), ok q → Ix D A s (back q) H1 locs1 → W p l e R s m args below meth c H1 locs1 cells slots Q (F0 m (pc + 3) ls rest)) : W p l e R s m args below meth c H locs cells slots Q (F0 m pc ls st) := by
  obtain ⟨wr, g1, g2, g3⟩ := L
  refine kcallV (As := .ref b :: As) F hA (g1 _ _ Z) (fun sz hsz hp => runV_of F (hM sz) PcW.blind hl V h0 hR hce (va_recv F.2.2.2.2.2.1 Z.1 hc he) hn hls.1 hrest hdg hst hp) (fun u H1 locs1 hw Z1 => ?_)
  obtain ⟨rfl, ho⟩ := hw
  exact kk H1 locs1 ho (g3 _ _ _ Z1)
/-- a static method of one's own class that touches no cell -/
theorem ks_i {v : Int32} (F : Fx p m c nL s args own cc D cI cS) (hA : ∀ q, s.heap.size ≤ q → A q) (Z : Ix D A s w H locs)
    (hM : MI l y cy nY ret rm D cI cS As [] (fun _ : Unit => []) (fun r _ => r = v)) (hl : Cond.methodLink own idx y ∈ wU) (V : WdS own y cy nY ret n) (h0 : rm.cells = 0 ∧ rm.slots = 0) (hR : rm.frames + 1 ≤ R.frames ∧ 8 + (nY + 11) + rm.locals ≤ R.locals) (hce : cells ≤ R.cells ∧ slots ≤ R.slots)
    (hn : As.length = n) (hls : lv_has ls nL lv) (hrest : (rest.map fun v => v.category).sum ≤ 8) (hdg : decode cc pc = .ok (.invokestatic idx, 3)) (hst : st = As.reverse ++ rest)
    (kk : ∀ (H1 : Heap) (locs1 : List Loc), Ix D A s w H1 locs1 → W p l e R s m args below meth c H1 locs1 cells slots Q (F0 m (pc + 3) ls (.int v :: rest))) : W p l e R s m args below meth c H locs cells slots Q (F0 m pc ls st) := by
  refine kcallI (S := Unit) (wcf := fun _ => []) (wr := w) (u0 := ()) (As := As) F hA Z (fun sz hsz hp => runS_of F (hM sz) PcW.blind hl V h0 hR hce hn hls.1 hrest hdg hst hp) (fun r u H1 locs1 hw Z1 => ?_)
  subst hw
  exact kk H1 locs1 Z1
end KL
end
section
/-! THE WORLDS: what the cells of the class and of the reference hold, as plain values; single instructions over a world -/
def bi (b : Bool) : Int32 := if b = true then 1 else 0
abbrev Tab : Type := Int32 × (Nat → Int32)
abbrev St : Type := (Nat → Tab) × Int32
def stT (τ : St) (i : Nat) (u : Tab) : St := (va_up τ.1 i u, τ.2)
def stD (τ : St) (d : Int32) : St := (τ.1, d)
def tbW (t a : Nat) (cI : ClassId) (cap cols L : Nat) (u : Tab) : va_W := [(t, .inr (3, [.int (nI cap), .int (nI cols), .ref a, .int u.1])), (a, .inl (cI, L, .inl u.2))]
def stW (ad : Nat → Nat) (b : Nat) (cI : ClassId) (τ : St) : va_W := [
  (ad b, .inr (2, [.ref (ad (b + 1)), .ref (ad (b + 3)), .ref (ad (b + 5)), .ref (ad (b + 7)), .ref (ad (b + 9)), .int τ.2])),
  (ad (b + 1), .inr (3, [.int (nI 20), .int (nI 12), .ref (ad (b + 2)), .int (τ.1 0).1])), (ad (b + 2), .inl (cI, 20 * 12, .inl (τ.1 0).2)),
  (ad (b + 3), .inr (3, [.int (nI 8), .int (nI 4), .ref (ad (b + 4)), .int (τ.1 1).1])), (ad (b + 4), .inl (cI, 8 * 4, .inl (τ.1 1).2)),
  (ad (b + 5), .inr (3, [.int (nI 24), .int (nI 4), .ref (ad (b + 6)), .int (τ.1 2).1])), (ad (b + 6), .inl (cI, 24 * 4, .inl (τ.1 2).2)),
  (ad (b + 7), .inr (3, [.int (nI 60), .int (nI 5), .ref (ad (b + 8)), .int (τ.1 3).1])), (ad (b + 8), .inl (cI, 60 * 5, .inl (τ.1 3).2)),
  (ad (b + 9), .inr (3, [.int (nI 8), .int (nI 1), .ref (ad (b + 10)), .int (τ.1 4).1])), (ad (b + 10), .inl (cI, 8 * 1, .inl (τ.1 4).2))]
def cW (ad : Nat → Nat) (cI : ClassId) (hs : Bool) (τ : St) : va_W :=
  (ad 0, .inr (4, [.ref (ad 1), .ref (ad 12), .ref (ad 23), .int (bi hs), .ref (ad 34), .ref (ad 124)])) :: stW ad 1 cI τ
abbrev Xs : Type := ((Nat → Int32) × (Int32 × Int32)) × Tab
def xW (ad : Nat → Nat) (cI : ClassId) (ξ : Xs) : va_W := [
  (ad 124, .inr (0, [.ref (ad 125), .int ξ.1.2.1, .int ξ.1.2.2, .ref (ad 126)])), (ad 125, .inl (cI, 60, .inl ξ.1.1)),
  (ad 126, .inr (3, [.int (nI 15), .int (nI 4), .ref (ad 127), .int ξ.2.1])), (ad 127, .inl (cI, 15 * 4, .inl ξ.2.2))]
abbrev Ms : Type := ((Nat → Nat → Int32) × (Nat → Int32)) × (Bool × Bool)
def msA (ρ : Ms) (i : Nat) (f : Nat → Int32) : Ms := ((va_up ρ.1.1 i f, ρ.1.2), ρ.2)
def msI (ρ : Ms) (j : Nat) (v : Int32) : Ms := ((ρ.1.1, va_up ρ.1.2 j v), ρ.2)
def msS (ρ : Ms) (b : Bool) : Ms := (ρ.1, (b, ρ.2.2))
def msW (ρ : Ms) (b : Bool) : Ms := (ρ.1, (ρ.2.1, b))
def mW (am : Nat → Nat) (cI : ClassId) (ρ : Ms) : va_W := [
  (am 0, .inr (5, [.ref (am 1), .ref (am 2), .ref (am 3), .ref (am 4), .int (ρ.1.2 0), .int (bi ρ.2.1), .ref (am 5), .ref (am 6), .int (ρ.1.2 1), .int (ρ.1.2 2), .int (bi ρ.2.2)])),
  (am 1, .inl (cI, 681, .inl (ρ.1.1 0))), (am 2, .inl (cI, 681, .inl (ρ.1.1 1))), (am 3, .inl (cI, 681, .inl (ρ.1.1 2))), (am 4, .inl (cI, 5448, .inl (ρ.1.1 3))), (am 5, .inl (cI, 60, .inl (ρ.1.1 4))), (am 6, .inl (cI, 3, .inl (ρ.1.1 5)))]
/-- reading and writing an int array: nothing where the index is outside -/
def rdA (f : Nat → Int32) (n : Nat) (i : Int32) : Option Int32 := if i < 0 ∨ n ≤ i.toNatClampNeg then none else some (f i.toNatClampNeg)
def wrA (f : Nat → Int32) (n : Nat) (i v : Int32) : Option (Nat → Int32) := if i < 0 ∨ n ≤ i.toNatClampNeg then none else some (va_up f i.toNatClampNeg v)
theorem rdA_el {f : Nat → Int32} {n : Nat} {i v : Int32} (h : rdA f n i = some v) : vp_in i n ∧ v = f i.toNatClampNeg := by
  unfold rdA at h
  split at h
  · cases h
  · rename_i g
    exact ⟨g, (Option.some.inj h).symm⟩
theorem wrA_el {f g : Nat → Int32} {n : Nat} {i v : Int32} (h : wrA f n i v = some g) : vp_in i n ∧ g = va_up f i.toNatClampNeg v := by
  unfold wrA at h
  split at h
  · cases h
  · rename_i g
    exact ⟨g, (Option.some.inj h).symm⟩
/-- a step of a computation that has one answer -/
def bnd {α β : Type} (x : α) (f : α → β) : β := f x
theorem bnd_el {α β : Type} {x : α} {f : α → β} {r : β} (h : bnd x f = r) : ∃ q, q = x ∧ f q = r := ⟨x, rfl, h⟩
theorem obind {α β : Type} {x : Option α} {f : α → Option β} {r : β} (h : x.bind f = some r) : ∃ q, x = some q ∧ f q = some r := by
  cases x with
  | none => cases h
  | some q => exact ⟨q, rfl, h⟩
def FU : Nat := 1000
def jmax (x y : Int32) : Int32 := if x < y then y else x
def jmin (x y : Int32) : Int32 := if y < x then y else x
def jabs (x : Int32) : Int32 := if x < 0 then 0 - x else x
def jminL (x y : Int64) : Int64 := if y < x then y else x
theorem inX0 : ∀ w ∈ u_ws RX0 TX0 4, w ∈ wU := by decide +kernel
theorem inX1 : ∀ w ∈ u_ws RX1 TX1 3, w ∈ wU := by decide +kernel
theorem inX2 : ∀ w ∈ u_ws RX2 TX2 6, w ∈ wU := by decide +kernel
theorem inX3 : ∀ w ∈ u_ws RX3 TX3 4, w ∈ wU := by decide +kernel
theorem inX4 : ∀ w ∈ u_ws RX4 TX4 6, w ∈ wU := by decide +kernel
theorem inX5 : ∀ w ∈ u_ws RX5 TX5 11, w ∈ wU := by decide +kernel
section KI
variable {p : Program} {l : Launch} {e : Env} {R : Room} {s : State} {m : MethodId} {args : Array Value} {below : List Frame} {meth : Method} {c : Code} {H : Heap} {locs : List Loc} {cells slots : Nat} {Q : State → Prop}
variable {lv : List (Nat × Value)} {nL : Nat} {own : String} {cc : ByteArray} {D : va_G} {cI cS : ClassId} {A : Nat → Prop} {w : va_W} {pc : Nat} {ls : Array Slot} {st rest As : List Value} {a b : Nat} {C ref host : String} {n idx : Nat} {T : u_T} {N ci : Nat} {fs : List Value} {v : Value}
theorem kget (F : Fx p m c nL s args own cc D cI cS) (Z : Ix D A s w H locs) (hin : ∀ x ∈ u_ws C T N, x ∈ wU) (q0 : Nat) (he : w[q0]? = some (a, .inr (ci, fs))) (hc : vwCl[ci]? = some (C, T, N)) (k : Nat) (hk : k < N) (hF : Cond.fieldLink own idx ref (T k).2.1 (T k).2.2.1 ∈ wU) (hr : (T k).1 = ref) (hv : fs[k]? = some v) (hdg : decode cc pc = .ok (.getfield idx, 3))
    (kk : W p l e R s m args below meth c H locs cells slots Q (F0 m (pc + 3) ls (v :: rest))) : W p l e R s m args below meth c H locs cells slots Q (F0 m pc ls (.ref a :: rest)) :=
  va_get (D := D) F.1 F.2.1 F.2.2.2.2.1 hin F.2.2.2.1 F.2.2.2.2.2.1 Z.1 q0 he hc k hk (F.2.2.2.2.1 _ hF) (fun x h => by rw [← hr]; exact h) hv hdg kk
theorem kgetN (F : Fx p m c nL s args own cc D cI cS) (Z : Ix D A s w H locs) (hin : ∀ x ∈ u_ws C T N, x ∈ wU) (q0 : Nat) (he : w[q0]? = some (a, .inr (ci, fs))) (hc : vwCl[ci]? = some (C, T, N)) (k : Nat) (hk : k < N) (hF : Cond.fieldLinkNest own idx ref (T k).2.1 (T k).2.2.1 host ∈ nws) (hr : (T k).1 = ref) (hv : fs[k]? = some v) (hdg : decode cc pc = .ok (.getfield idx, 3))
    (kk : W p l e R s m args below meth c H locs cells slots Q (F0 m (pc + 3) ls (v :: rest))) : W p l e R s m args below meth c H locs cells slots Q (F0 m pc ls (.ref a :: rest)) :=
  va_getN (D := D) (host := host) F.1 F.2.1 F.2.2.2.2.1 hin F.2.2.2.1 F.2.2.2.2.2.1 Z.1 q0 he hc k hk ((F.2.2.2.2.2.2 _ hF).use rfl) (fun x h => by rw [← hr]; exact h) hv hdg kk
theorem kput {w' : va_W} {ty : FieldType} (F : Fx p m c nL s args own cc D cI cS) (Z : Ix D A s w H locs) (hin : ∀ x ∈ u_ws C T N, x ∈ wU) (tys : Nat → FieldType) (hty : ∀ k, k < N → parseFieldDescriptor (T k).2.2.1 = some (tys k)) (hnm : ∀ a, a < N → ∀ b, b < N → a ≠ b → (T a).2.1 ≠ (T b).2.1) (q0 : Nat) (he : w[q0]? = some (a, .inr (ci, fs))) (hc : vwCl[ci]? = some (C, T, N)) (k : Nat) (hk : k < N) (hF : Cond.fieldLink own idx ref (T k).2.1 (T k).2.2.1 ∈ wU) (hr : (T k).1 = ref)
    (hfin : (T k).2.2.2 = false) (hd : tys k = ty) (hn : narrow ty v = v) (hfit : fits ty v = true) (hl : k < fs.length) (hw : w.set q0 (a, .inr (ci, fs.set k v)) = w') (hdg : decode cc pc = .ok (.putfield idx, 3))
    (kk : ∀ (H1 : Heap) (locs1 : List Loc), Ix D A s w' H1 locs1 → W p l e R s m args below meth c H1 locs1 cells slots Q (F0 m (pc + 3) ls rest)) : W p l e R s m args below meth c H locs cells slots Q (F0 m pc ls (v :: .ref a :: rest)) := by
  subst hw
  exact va_put (D := D) F.1 F.2.1 F.2.2.2.2.1 hin tys hty hnm F.2.2.2.1 F.2.2.2.2.2.1 Z.1 Z.2.1 Z.2.2 q0 he hc k hk (F.2.2.2.2.1 _ hF) (fun x h => by rw [← hr]; exact h) hfin (by rw [hty k hk, hd]) hn hfit hl hdg (fun H1 locs1 hP hD hS => kk H1 locs1 ⟨hP, hD, hS⟩)
theorem kputN {w' : va_W} {ty : FieldType} (F : Fx p m c nL s args own cc D cI cS) (Z : Ix D A s w H locs) (hin : ∀ x ∈ u_ws C T N, x ∈ wU) (tys : Nat → FieldType) (hty : ∀ k, k < N → parseFieldDescriptor (T k).2.2.1 = some (tys k)) (hnm : ∀ a, a < N → ∀ b, b < N → a ≠ b → (T a).2.1 ≠ (T b).2.1) (q0 : Nat) (he : w[q0]? = some (a, .inr (ci, fs))) (hc : vwCl[ci]? = some (C, T, N)) (k : Nat) (hk : k < N) (hF : Cond.fieldLinkNest own idx ref (T k).2.1 (T k).2.2.1 host ∈ nws) (hr : (T k).1 = ref)
    (hfin : (T k).2.2.2 = false) (hd : tys k = ty) (hn : narrow ty v = v) (hfit : fits ty v = true) (hl : k < fs.length) (hw : w.set q0 (a, .inr (ci, fs.set k v)) = w') (hdg : decode cc pc = .ok (.putfield idx, 3))
    (kk : ∀ (H1 : Heap) (locs1 : List Loc), Ix D A s w' H1 locs1 → W p l e R s m args below meth c H1 locs1 cells slots Q (F0 m (pc + 3) ls rest)) : W p l e R s m args below meth c H locs cells slots Q (F0 m pc ls (v :: .ref a :: rest)) := by
  subst hw
  exact va_putN (D := D) (host := host) F.1 F.2.1 F.2.2.2.2.1 hin tys hty hnm F.2.2.2.1 F.2.2.2.2.2.1 Z.1 Z.2.1 Z.2.2 q0 he hc k hk ((F.2.2.2.2.2.2 _ hF).use rfl) (fun x h => by rw [← hr]; exact h) hfin (by rw [hty k hk, hd]) hn hfit hl hdg (fun H1 locs1 hP hD hS => kk H1 locs1 ⟨hP, hD, hS⟩)
theorem kald {f : Nat → Int32} {i x : Int32} (F : Fx p m c nL s args own cc D cI cS) (Z : Ix D A s w H locs) (q0 : Nat) (he : w[q0]? = some (a, .inl (cI, n, .inl f))) (hv : rdA f n i = some x) (hdg : decode cc pc = .ok (.iaload, 1))
    (kk : W p l e R s m args below meth c H locs cells slots Q (F0 m (pc + 1) ls (.int x :: rest))) : W p l e R s m args below meth c H locs cells slots Q (F0 m pc ls (.int i :: .ref a :: rest)) := by
  obtain ⟨h1, rfl⟩ := rdA_el hv
  exact va_iald (D := D) F.1 F.2.1 F.2.2.2.2.2.1 Z.1 q0 0 he rfl h1 hdg kk
theorem kast {w' : va_W} {f g : Nat → Int32} {i x : Int32} (F : Fx p m c nL s args own cc D cI cS) (Z : Ix D A s w H locs) (q0 : Nat) (he : w[q0]? = some (a, .inl (cI, n, .inl f))) (hv : wrA f n i x = some g) (hw : w.set q0 (a, .inl (cI, n, .inl g)) = w') (hdg : decode cc pc = .ok (.iastore, 1))
    (kk : ∀ (H1 : Heap) (locs1 : List Loc), Ix D A s w' H1 locs1 → W p l e R s m args below meth c H1 locs1 cells slots Q (F0 m (pc + 1) ls rest)) : W p l e R s m args below meth c H locs cells slots Q (F0 m pc ls (.int x :: .int i :: .ref a :: rest)) := by
  obtain ⟨h1, rfl⟩ := wrA_el hv
  subst hw
  exact va_iast (D := D) F.1 F.2.1 F.2.2.2.2.2.1 Z.1 Z.2.1 Z.2.2 q0 0 he rfl h1 hdg (fun H1 locs1 hP hD hS => kk H1 locs1 ⟨hP, hD, hS⟩)
theorem kalen {f : Nat → Int32} {x : Int32} (F : Fx p m c nL s args own cc D cI cS) (Z : Ix D A s w H locs) (q0 : Nat) (he : w[q0]? = some (a, .inl (cI, n, .inl f))) (hv : nI n = x) (hdg : decode cc pc = .ok (.arraylength, 1))
    (kk : W p l e R s m args below meth c H locs cells slots Q (F0 m (pc + 1) ls (.int x :: rest))) : W p l e R s m args below meth c H locs cells slots Q (F0 m pc ls (.ref a :: rest)) :=
  va_alen (D := D) F.1 F.2.1 F.2.2.2.2.2.1 Z.1 q0 0 he rfl hv hdg kk
end KI
/-- the tables of a state, one at a time -/
theorem Lens.c0 {D : va_G} {A : Nat → Prop} {s : State} {ad : Nat → Nat} {cI : ClassId} {hs : Bool} {τ : St} {R : va_W} : Lens D A s (cW ad cI hs τ ++ R) (tbW (ad 2) (ad 3) cI 20 12 (20 * 12)) (τ.1 0) (fun u => cW ad cI hs (stT τ 0 u) ++ R) :=
  ⟨[0, 1, 4, 5, 6, 7, 8, 9, 10, 11].filterMap (fun i => (cW ad cI hs τ)[i]?) ++ R, fun _ _ Z => Ix.subP (w' := tbW (ad 2) (ad 3) cI 20 12 (20 * 12) (τ.1 0) ++ [0, 1, 4, 5, 6, 7, 8, 9, 10, 11].filterMap (fun i => (cW ad cI hs τ)[i]?)) Z [2, 3, 0, 1, 4, 5, 6, 7, 8, 9, 10, 11] (by decide) rfl,
   fun _ _ Z => Ix.subP (w := tbW (ad 2) (ad 3) cI 20 12 (20 * 12) (τ.1 0) ++ [0, 1, 4, 5, 6, 7, 8, 9, 10, 11].filterMap (fun i => (cW ad cI hs τ)[i]?)) Z [2, 3, 0, 1, 4, 5, 6, 7, 8, 9, 10, 11] (by decide) rfl,
   fun u _ _ Z => Ix.subP (w := tbW (ad 2) (ad 3) cI 20 12 (20 * 12) u ++ [0, 1, 4, 5, 6, 7, 8, 9, 10, 11].filterMap (fun i => (cW ad cI hs τ)[i]?)) Z [2, 3, 0, 1, 4, 5, 6, 7, 8, 9, 10, 11] (by decide) rfl⟩
end
section
/-! SPECIFICATIONS OF THE TABLE, lenses, the JDK's functions, switches -/
theorem Lens.c1 {D : va_G} {A : Nat → Prop} {s : State} {ad : Nat → Nat} {cI : ClassId} {hs : Bool} {τ : St} {R : va_W} : Lens D A s (cW ad cI hs τ ++ R) (tbW (ad 4) (ad 5) cI 8 4 (8 * 4)) (τ.1 1) (fun u => cW ad cI hs (stT τ 1 u) ++ R) :=
  ⟨[0, 1, 2, 3, 6, 7, 8, 9, 10, 11].filterMap (fun i => (cW ad cI hs τ)[i]?) ++ R, fun _ _ Z => Ix.subP (w' := tbW (ad 4) (ad 5) cI 8 4 (8 * 4) (τ.1 1) ++ [0, 1, 2, 3, 6, 7, 8, 9, 10, 11].filterMap (fun i => (cW ad cI hs τ)[i]?)) Z [4, 5, 0, 1, 2, 3, 6, 7, 8, 9, 10, 11] (by decide) rfl,
   fun _ _ Z => Ix.subP (w := tbW (ad 4) (ad 5) cI 8 4 (8 * 4) (τ.1 1) ++ [0, 1, 2, 3, 6, 7, 8, 9, 10, 11].filterMap (fun i => (cW ad cI hs τ)[i]?)) Z [2, 3, 4, 5, 0, 1, 6, 7, 8, 9, 10, 11] (by decide) rfl,
   fun u _ _ Z => Ix.subP (w := tbW (ad 4) (ad 5) cI 8 4 (8 * 4) u ++ [0, 1, 2, 3, 6, 7, 8, 9, 10, 11].filterMap (fun i => (cW ad cI hs τ)[i]?)) Z [2, 3, 4, 5, 0, 1, 6, 7, 8, 9, 10, 11] (by decide) rfl⟩
theorem Lens.c2 {D : va_G} {A : Nat → Prop} {s : State} {ad : Nat → Nat} {cI : ClassId} {hs : Bool} {τ : St} {R : va_W} : Lens D A s (cW ad cI hs τ ++ R) (tbW (ad 6) (ad 7) cI 24 4 (24 * 4)) (τ.1 2) (fun u => cW ad cI hs (stT τ 2 u) ++ R) :=
  ⟨[0, 1, 2, 3, 4, 5, 8, 9, 10, 11].filterMap (fun i => (cW ad cI hs τ)[i]?) ++ R, fun _ _ Z => Ix.subP (w' := tbW (ad 6) (ad 7) cI 24 4 (24 * 4) (τ.1 2) ++ [0, 1, 2, 3, 4, 5, 8, 9, 10, 11].filterMap (fun i => (cW ad cI hs τ)[i]?)) Z [6, 7, 0, 1, 2, 3, 4, 5, 8, 9, 10, 11] (by decide) rfl,
   fun _ _ Z => Ix.subP (w := tbW (ad 6) (ad 7) cI 24 4 (24 * 4) (τ.1 2) ++ [0, 1, 2, 3, 4, 5, 8, 9, 10, 11].filterMap (fun i => (cW ad cI hs τ)[i]?)) Z [2, 3, 4, 5, 6, 7, 0, 1, 8, 9, 10, 11] (by decide) rfl,
   fun u _ _ Z => Ix.subP (w := tbW (ad 6) (ad 7) cI 24 4 (24 * 4) u ++ [0, 1, 2, 3, 4, 5, 8, 9, 10, 11].filterMap (fun i => (cW ad cI hs τ)[i]?)) Z [2, 3, 4, 5, 6, 7, 0, 1, 8, 9, 10, 11] (by decide) rfl⟩
theorem Lens.c3 {D : va_G} {A : Nat → Prop} {s : State} {ad : Nat → Nat} {cI : ClassId} {hs : Bool} {τ : St} {R : va_W} : Lens D A s (cW ad cI hs τ ++ R) (tbW (ad 8) (ad 9) cI 60 5 (60 * 5)) (τ.1 3) (fun u => cW ad cI hs (stT τ 3 u) ++ R) :=
  ⟨[0, 1, 2, 3, 4, 5, 6, 7, 10, 11].filterMap (fun i => (cW ad cI hs τ)[i]?) ++ R, fun _ _ Z => Ix.subP (w' := tbW (ad 8) (ad 9) cI 60 5 (60 * 5) (τ.1 3) ++ [0, 1, 2, 3, 4, 5, 6, 7, 10, 11].filterMap (fun i => (cW ad cI hs τ)[i]?)) Z [8, 9, 0, 1, 2, 3, 4, 5, 6, 7, 10, 11] (by decide) rfl,
   fun _ _ Z => Ix.subP (w := tbW (ad 8) (ad 9) cI 60 5 (60 * 5) (τ.1 3) ++ [0, 1, 2, 3, 4, 5, 6, 7, 10, 11].filterMap (fun i => (cW ad cI hs τ)[i]?)) Z [2, 3, 4, 5, 6, 7, 8, 9, 0, 1, 10, 11] (by decide) rfl,
   fun u _ _ Z => Ix.subP (w := tbW (ad 8) (ad 9) cI 60 5 (60 * 5) u ++ [0, 1, 2, 3, 4, 5, 6, 7, 10, 11].filterMap (fun i => (cW ad cI hs τ)[i]?)) Z [2, 3, 4, 5, 6, 7, 8, 9, 0, 1, 10, 11] (by decide) rfl⟩
theorem Lens.c4 {D : va_G} {A : Nat → Prop} {s : State} {ad : Nat → Nat} {cI : ClassId} {hs : Bool} {τ : St} {R : va_W} : Lens D A s (cW ad cI hs τ ++ R) (tbW (ad 10) (ad 11) cI 8 1 (8 * 1)) (τ.1 4) (fun u => cW ad cI hs (stT τ 4 u) ++ R) :=
  ⟨[0, 1, 2, 3, 4, 5, 6, 7, 8, 9].filterMap (fun i => (cW ad cI hs τ)[i]?) ++ R, fun _ _ Z => Ix.subP (w' := tbW (ad 10) (ad 11) cI 8 1 (8 * 1) (τ.1 4) ++ [0, 1, 2, 3, 4, 5, 6, 7, 8, 9].filterMap (fun i => (cW ad cI hs τ)[i]?)) Z [10, 11, 0, 1, 2, 3, 4, 5, 6, 7, 8, 9] (by decide) rfl,
   fun _ _ Z => Ix.subP (w := tbW (ad 10) (ad 11) cI 8 1 (8 * 1) (τ.1 4) ++ [0, 1, 2, 3, 4, 5, 6, 7, 8, 9].filterMap (fun i => (cW ad cI hs τ)[i]?)) Z [2, 3, 4, 5, 6, 7, 8, 9, 10, 11, 0, 1] (by decide) rfl,
   fun u _ _ Z => Ix.subP (w := tbW (ad 10) (ad 11) cI 8 1 (8 * 1) u ++ [0, 1, 2, 3, 4, 5, 6, 7, 8, 9].filterMap (fun i => (cW ad cI hs τ)[i]?)) Z [2, 3, 4, 5, 6, 7, 8, 9, 10, 11, 0, 1] (by decide) rfl⟩
theorem Lens.x3 {D : va_G} {A : Nat → Prop} {s : State} {ad : Nat → Nat} {cI : ClassId} {ξ : Xs} : Lens D A s (xW ad cI ξ) (tbW (ad 126) (ad 127) cI 15 4 (15 * 4)) ξ.2 (fun u => xW ad cI (ξ.1, u)) :=
  ⟨[0, 1].filterMap (fun i => (xW ad cI ξ)[i]?), fun _ _ Z => Ix.sub (w' := tbW (ad 126) (ad 127) cI 15 4 (15 * 4) ξ.2 ++ [0, 1].filterMap (fun i => (xW ad cI ξ)[i]?)) Z [2, 3, 0, 1] (by decide) rfl,
   fun _ _ Z => Ix.sub (w := tbW (ad 126) (ad 127) cI 15 4 (15 * 4) ξ.2 ++ [0, 1].filterMap (fun i => (xW ad cI ξ)[i]?)) Z [2, 3, 0, 1] (by decide) rfl,
   fun u _ _ Z => Ix.sub (w := tbW (ad 126) (ad 127) cI 15 4 (15 * 4) u ++ [0, 1].filterMap (fun i => (xW ad cI ξ)[i]?)) Z [2, 3, 0, 1] (by decide) rfl⟩
theorem Ix.anil {D : va_G} {A : Nat → Prop} {s : State} {w : va_W} {H : Heap} {locs : List Loc} (Z : Ix D A s w H locs) : Ix D A s (w ++ []) H locs := by rw [List.append_nil]; exact Z
theorem Ix.nila {D : va_G} {A : Nat → Prop} {s : State} {w : va_W} {H : Heap} {locs : List Loc} (Z : Ix D A s (w ++ []) H locs) : Ix D A s w H locs := by rw [List.append_nil] at Z; exact Z
/-- what the table's methods answer and leave, where its size is in its bounds -/
def tbS (cap cols L : Nat) : Prop := L = cap * cols ∧ cap ≤ 100 ∧ cols ≤ 100
def tbOK (cap : Nat) (u : Tab) : Prop := 0 ≤ u.1 ∧ u.1 ≤ nI cap
def tat (cols : Nat) (row col : Int32) : Nat := row.toNatClampNeg * cols + col.toNatClampNeg
def tget (cols : Nat) (u : Tab) (row col : Int32) : Int32 := if row < 0 ∨ u.1 ≤ row ∨ col < 0 ∨ nI cols ≤ col then 0 else u.2 (tat cols row col)
def tput (cols : Nat) (u : Tab) (row col v : Int32) : Tab := if row < 0 ∨ u.1 ≤ row ∨ col < 0 ∨ nI cols ≤ col then u else (u.1, va_up u.2 (tat cols row col) v)
def thas (u : Tab) (row : Int32) : Bool := decide (0 ≤ row) && decide (row < u.1)
def tadd (cap cols : Nat) (u : Tab) : Int32 × Tab := if nI cap ≤ u.1 then (-3, u) else (u.1, (u.1 + 1, fun k => if u.1.toNatClampNeg * cols ≤ k ∧ k < u.1.toNatClampNeg * cols + cols then 0 else u.2 k))
def trem (cols : Nat) (u : Tab) (row : Int32) : Tab := if row < 0 ∨ u.1 ≤ row then u else (u.1 - 1, fun k => if row.toNatClampNeg * cols ≤ k ∧ k < (u.1.toNatClampNeg - 1) * cols then u.2 (k + cols) else u.2 k)
def tclr (u : Tab) : Tab := (0, u.2)
def OK (τ : St) : Prop := tbOK 20 (τ.1 0) ∧ tbOK 8 (τ.1 1) ∧ tbOK 24 (τ.1 2) ∧ tbOK 60 (τ.1 3) ∧ tbOK 8 (τ.1 4)
theorem ok_c0 {τ : St} {u : Tab} (h : OK τ) (hu : tbOK 20 u) : OK (stT τ 0 u) := ⟨hu, h.2.1, h.2.2.1, h.2.2.2.1, h.2.2.2.2⟩
theorem ok_c1 {τ : St} {u : Tab} (h : OK τ) (hu : tbOK 8 u) : OK (stT τ 1 u) := ⟨h.1, hu, h.2.2.1, h.2.2.2.1, h.2.2.2.2⟩
theorem ok_c2 {τ : St} {u : Tab} (h : OK τ) (hu : tbOK 24 u) : OK (stT τ 2 u) := ⟨h.1, h.2.1, hu, h.2.2.2.1, h.2.2.2.2⟩
theorem ok_c3 {τ : St} {u : Tab} (h : OK τ) (hu : tbOK 60 u) : OK (stT τ 3 u) := ⟨h.1, h.2.1, h.2.2.1, hu, h.2.2.2.2⟩
theorem ok_c4 {τ : St} {u : Tab} (h : OK τ) (hu : tbOK 8 u) : OK (stT τ 4 u) := ⟨h.1, h.2.1, h.2.2.1, h.2.2.2.1, hu⟩
theorem ok_D {τ : St} {d : Int32} (h : OK τ) : OK (stD τ d) := h
theorem sh0 : tbS 20 12 (20 * 12) := ⟨rfl, by decide, by decide⟩
theorem sh1 : tbS 8 4 (8 * 4) := ⟨rfl, by decide, by decide⟩
theorem sh2 : tbS 24 4 (24 * 4) := ⟨rfl, by decide, by decide⟩
theorem sh3 : tbS 60 5 (60 * 5) := ⟨rfl, by decide, by decide⟩
theorem sh4 : tbS 8 1 (8 * 1) := ⟨rfl, by decide, by decide⟩
theorem shx : tbS 15 4 (15 * 4) := ⟨rfl, by decide, by decide⟩
theorem bi_nar (b : Bool) : narrow .boolean (.int (bi b)) = .int (bi b) := by cases b <;> rfl
theorem bi_or1 (b : Bool) : bi b ||| 1 = bi true := by cases b <;> decide
theorem bi_or0 (b : Bool) : bi b ||| 0 = bi b := by cases b <;> decide
def jab (x : Int32) : Int32 := if 0 ≤ x then x else 0 - x
section KJ
variable {p : Program} {l : Launch} {e : Env} {R : Room} {s : State} {m : MethodId} {args : Array Value} {below : List Frame} {meth : Method} {c : Code} {H : Heap} {locs : List Loc} {cells slots : Nat} {Q : State → Prop}
variable {lv : List (Nat × Value)} {nL : Nat} {own : String} {cc : ByteArray} {D : va_G} {cI cS : ClassId} {A : Nat → Prop} {w : va_W} {pc : Nat} {ls : Array Slot} {rest : List Value} {idx : Nat}
theorem kmax {x y : Int32} (F : Fx p m c nL s args own cc D cI cS) (hl : lv_has ls nL lv) (hw : Cond.methodLink own idx ⟨"java/lang/Math", "max", "(II)I"⟩ ∈ wU) (hfr : 1 ≤ R.frames) (hlo : (rest.map fun v => v.category).sum + 13 ≤ R.locals) (hce : cells ≤ R.cells ∧ slots ≤ R.slots) (hdg : decode cc pc = .ok (.invokestatic idx, 3))
    (kk : W p l e R s m args below meth c H locs cells slots Q (F0 m (pc + 3) ls (.int (jmax x y) :: rest))) : W p l e R s m args below meth c H locs cells slots Q (F0 m pc ls (.int y :: .int x :: rest)) :=
  va_mmax F.1 F.2.1 (F.2.2.1.trans hl.1.symm) F.2.2.2.1 (F.2.2.2.2.1 _ hw) (F.2.2.2.2.1 _ mT_J_max_III) (F.2.2.2.2.1 _ mZ_java_lang_Math) (F.2.2.2.2.1 _ mC_J_max_III) hfr hlo hce.1 hce.2 hdg kk
theorem kmin {x y : Int32} (F : Fx p m c nL s args own cc D cI cS) (hl : lv_has ls nL lv) (hw : Cond.methodLink own idx ⟨"java/lang/Math", "min", "(II)I"⟩ ∈ wU) (hfr : 1 ≤ R.frames) (hlo : (rest.map fun v => v.category).sum + 13 ≤ R.locals) (hce : cells ≤ R.cells ∧ slots ≤ R.slots) (hdg : decode cc pc = .ok (.invokestatic idx, 3))
    (kk : W p l e R s m args below meth c H locs cells slots Q (F0 m (pc + 3) ls (.int (jmin x y) :: rest))) : W p l e R s m args below meth c H locs cells slots Q (F0 m pc ls (.int y :: .int x :: rest)) :=
  va_mmin F.1 F.2.1 (F.2.2.1.trans hl.1.symm) F.2.2.2.1 (F.2.2.2.2.1 _ hw) (F.2.2.2.2.1 _ mT_J_min_III) (F.2.2.2.2.1 _ mZ_java_lang_Math) (F.2.2.2.2.1 _ mC_J_min_III) hfr hlo hce.1 hce.2 hdg kk
theorem kabs {x : Int32} (F : Fx p m c nL s args own cc D cI cS) (hl : lv_has ls nL lv) (hw : Cond.methodLink own idx ⟨"java/lang/Math", "abs", "(I)I"⟩ ∈ wU) (hfr : 1 ≤ R.frames) (hlo : (rest.map fun v => v.category).sum + 13 ≤ R.locals) (hce : cells ≤ R.cells ∧ slots ≤ R.slots) (hdg : decode cc pc = .ok (.invokestatic idx, 3))
    (kk : W p l e R s m args below meth c H locs cells slots Q (F0 m (pc + 3) ls (.int (jab x) :: rest))) : W p l e R s m args below meth c H locs cells slots Q (F0 m pc ls (.int x :: rest)) :=
  va_mabs F.1 F.2.1 (F.2.2.1.trans hl.1.symm) F.2.2.2.1 (F.2.2.2.2.1 _ hw) (F.2.2.2.2.1 _ mT_J_abs_II) (F.2.2.2.2.1 _ mZ_java_lang_Math) (F.2.2.2.2.1 _ mC_J_abs_II) hfr hlo hce.1 hce.2 hdg kk
theorem kminL {x y : Int64} (F : Fx p m c nL s args own cc D cI cS) (hl : lv_has ls nL lv) (hw : Cond.methodLink own idx ⟨"java/lang/Math", "min", "(JJ)J"⟩ ∈ wU) (hfr : 1 ≤ R.frames) (hlo : (rest.map fun v => v.category).sum + 15 ≤ R.locals) (hce : cells ≤ R.cells ∧ slots ≤ R.slots) (hdg : decode cc pc = .ok (.invokestatic idx, 3))
    (kk : W p l e R s m args below meth c H locs cells slots Q (F0 m (pc + 3) ls (.long (jminL x y) :: rest))) : W p l e R s m args below meth c H locs cells slots Q (F0 m pc ls (.long y :: .long x :: rest)) :=
  va_mmin_long F.1 F.2.1 (F.2.2.1.trans hl.1.symm) F.2.2.2.1 (F.2.2.2.2.1 _ hw) (F.2.2.2.2.1 _ mT_J_min_JJJ) (F.2.2.2.2.1 _ mZ_java_lang_Math) (F.2.2.2.2.1 _ mC_J_min_JJJ) hfr hlo hce.1 hce.2 hdg kk
theorem kior {x y z : Int32} (hx : p.tables.exec = Jvm.exec) (hb : c.code = cc) (hz : x ||| y = z) (hdg : decode cc pc = .ok (.ior, 1)) (kk : W p l e R s m args below meth c H locs cells slots Q (F0 m (pc + 1) ls (.int z :: rest))) : W p l e R s m args below meth c H locs cells slots Q (F0 m pc ls (.int y :: .int x :: rest)) := by
  subst hz
  exact lv_ior hx hb hdg kk
/-- a switch at none of its values -/
theorem kdflt {dflt lo hi : Int} {offs : Array Int} {len : Nat} {x : Int32} {tgt : Nat} (hx : p.tables.exec = Jvm.exec) (hb : c.code = cc) (hdg : decode cc pc = .ok (.tableswitch dflt lo hi offs, len)) (vals : List Int32) (hall : ∀ j, j < (hi - lo + 1).toNat → offs[j]? = some dflt ∨ Int32.ofInt (lo + (j : Int)) ∈ vals) (hno : ∀ v ∈ vals, ¬ x = v) (ht : (pc : Int) + dflt = (tgt : Int))
    (kk : W p l e R s m args below meth c H locs cells slots Q (F0 m tgt ls rest)) : W p l e R s m args below meth c H locs cells slots Q (F0 m pc ls (.int x :: rest)) := by
  by_cases h1 : x.toInt < lo
  · exact lv_tableOut hx hb hdg (Or.inl h1) ht kk
  · by_cases h2 : hi < x.toInt
    · exact lv_tableOut hx hb hdg (Or.inr h2) ht kk
    · rcases hall (x.toInt - lo).toNat (by omega) with h3 | h3
      · exact lv_tableIn hx hb hdg h1 h2 h3 ht kk
      · refine absurd ?_ (hno _ h3)
        have e1 : lo + ((x.toInt - lo).toNat : Int) = x.toInt := by omega
        rw [e1, Int32.ofInt_toInt]
end KJ
end
section
/-! THE TABLE, as its bytecode computes it -/
def X3_size (cap cols L : Nat) (u : Tab) : Int32 := u.1
def rm_X3_size : Room := { frames := 0, cells := 0, slots := 0, locals := 0 }
theorem v_X3_size : WdV RX3 yX3_size cX3_size 1 (some .int) 0 := ⟨mI_X3_size, mS_X3_size, mZ_RX3, mC_X3_size, by decide +kernel⟩
set_option maxHeartbeats 8000000 in
set_option maxRecDepth 100000 in
theorem m_X3_size (l : Launch) (D : va_G) (cI cS : ClassId) (t a cap cols L : Nat) (sh : tbS cap cols L) (u : Tab) (ok : tbOK cap u) (F : Int32) (hF : X3_size cap cols L u = F) : MI l yX3_size cX3_size 1 (some .int) rm_X3_size D cI cS [.ref t] (tbW t a cI cap cols L u) (tbW t a cI cap cols L) (fun r u' => r = F ∧ u' = u) := by
  refine MI.mk RX3 rfl .int rfl (by decide) (Nat.le_of_ble_eq_true rfl) (fun _ _ _ => rfl) ?_
  intro p e s m args below meth c A Q ls Fc hin hA Z kret hl
  obtain ⟨hx, hb, hml, hown, hts, hKN⟩ := id Fc
  replace hl : lv_has ls 1 [(0, .ref t)] := hl
  unfold X3_size at hF
  refine lv_aload_n hx hb dX3_size_0 rfl (lv_at hl 0 rfl) ?_
  refine kget Fc Z inX3 0 rfl rfl 3 (by decide) mF_RX3_9 rfl rfl dX3_size_1 ?_
  exact kret _ _ _ _ _ _ ⟨hF, rfl⟩ Z dX3_size_4
def X3_has (cap cols L : Nat) (u : Tab) (p1 : Int32) : Bool := if p1 < 0 then (false) else if u.1 ≤ p1 then (false) else true
def rm_X3_has : Room := { frames := 0, cells := 0, slots := 0, locals := 0 }
theorem v_X3_has : WdV RX3 yX3_has cX3_has 2 (some .boolean) 1 := ⟨mI_X3_has, mS_X3_has, mZ_RX3, mC_X3_has, by decide +kernel⟩
set_option maxHeartbeats 8000000 in
set_option maxRecDepth 100000 in
theorem m_X3_has (l : Launch) (D : va_G) (cI cS : ClassId) (t a cap cols L : Nat) (sh : tbS cap cols L) (u : Tab) (ok : tbOK cap u) (p1 : Int32) (F : Bool) (hF : X3_has cap cols L u p1 = F) : MI l yX3_has cX3_has 2 (some .boolean) rm_X3_has D cI cS [.ref t, .int p1] (tbW t a cI cap cols L u) (tbW t a cI cap cols L) (fun r u' => r = bi F ∧ u' = u) := by
  refine MI.mk RX3 rfl .boolean rfl (by decide) (Nat.le_of_ble_eq_true rfl) (fun r u h => by rw [h.1]; exact bi_nar _) ?_
  intro p e s m args below meth c A Q ls Fc hin hA Z kret hl
  obtain ⟨hx, hb, hml, hown, hts, hKN⟩ := id Fc
  replace hl : lv_has ls 2 [(0, .ref t), (1, .int p1)] := hl
  unfold X3_has at hF
  refine lv_iload_n hx hb dX3_has_0 rfl (lv_at hl 1 rfl) ?_
  refine lv_if_lt (tgt := 16) hx hb dX3_has_1 (by decide) (fun c1 => ?_) (fun c1 => ?_)
  · rw [if_pos c1] at hF
    refine lv_iconst (v := (0 : Int32)) hx hb dX3_has_16 (by decide) ?_
    exact kret _ _ _ _ _ _ ⟨(congrArg bi hF), rfl⟩ Z dX3_has_17
  · rw [if_neg c1] at hF
    refine lv_iload_n hx hb dX3_has_4 rfl (lv_at hl 1 rfl) ?_
    refine lv_aload_n hx hb dX3_has_5 rfl (lv_at hl 0 rfl) ?_
    refine kget Fc Z inX3 0 rfl rfl 3 (by decide) mF_RX3_9 rfl rfl dX3_has_6 ?_
    refine lv_icmp_ge (tgt := 16) hx hb dX3_has_9 (by decide) (fun c2 => ?_) (fun c2 => ?_)
    · rw [if_pos c2] at hF
      refine lv_iconst (v := (0 : Int32)) hx hb dX3_has_16 (by decide) ?_
      exact kret _ _ _ _ _ _ ⟨(congrArg bi hF), rfl⟩ Z dX3_has_17
    · rw [if_neg c2] at hF
      refine lv_iconst (v := (1 : Int32)) hx hb dX3_has_12 (by decide) ?_
      refine lv_goto (tgt := 17) hx hb dX3_has_13 (by decide) ?_
      exact kret _ _ _ _ _ _ ⟨(congrArg bi hF), rfl⟩ Z dX3_has_17
def X3_get (cap cols L : Nat) (u : Tab) (p1 p2 : Int32) : Option (Int32) := if p1 < 0 then (some (0 : Int32)) else if u.1 ≤ p1 then (some (0 : Int32)) else if p2 < 0 then (some (0 : Int32)) else if p2 < (nI cols) then (if (nI L) ≤ ((p1 * (nI cols)) + p2) then (some (0 : Int32)) else (rdA u.2 L (((p1 * (nI cols)) + p2))).bind fun v6 => some v6) else some (0 : Int32)
def rm_X3_get : Room := { frames := 0, cells := 0, slots := 0, locals := 0 }
theorem v_X3_get : WdV RX3 yX3_get cX3_get 4 (some .int) 2 := ⟨mI_X3_get, mS_X3_get, mZ_RX3, mC_X3_get, by decide +kernel⟩
set_option maxHeartbeats 8000000 in
set_option maxRecDepth 100000 in
theorem m_X3_get (l : Launch) (D : va_G) (cI cS : ClassId) (t a cap cols L : Nat) (sh : tbS cap cols L) (u : Tab) (ok : tbOK cap u) (p1 p2 : Int32) (F : Int32) (hF : X3_get cap cols L u p1 p2 = some F) : MI l yX3_get cX3_get 4 (some .int) rm_X3_get D cI cS [.ref t, .int p1, .int p2] (tbW t a cI cap cols L u) (tbW t a cI cap cols L) (fun r u' => r = F ∧ u' = u) := by
  refine MI.mk RX3 rfl .int rfl (by decide) (Nat.le_of_ble_eq_true rfl) (fun _ _ _ => rfl) ?_
  intro p e s m args below meth c A Q ls Fc hin hA Z kret hl
  obtain ⟨hx, hb, hml, hown, hts, hKN⟩ := id Fc
  replace hl : lv_has ls 4 [(0, .ref t), (1, .int p1), (2, .int p2)] := hl
  unfold X3_get at hF
  refine lv_iload_n hx hb dX3_get_0 rfl (lv_at hl 1 rfl) ?_
  refine lv_if_lt (tgt := 24) hx hb dX3_get_1 (by decide) (fun c1 => ?_) (fun c1 => ?_)
  · rw [if_pos c1] at hF
    refine lv_iconst (v := (0 : Int32)) hx hb dX3_get_24 (by decide) ?_
    exact kret _ _ _ _ _ _ ⟨(Option.some.inj hF), rfl⟩ Z dX3_get_25
  · rw [if_neg c1] at hF
    refine lv_iload_n hx hb dX3_get_4 rfl (lv_at hl 1 rfl) ?_
    refine lv_aload_n hx hb dX3_get_5 rfl (lv_at hl 0 rfl) ?_
    refine kget Fc Z inX3 0 rfl rfl 3 (by decide) mF_RX3_9 rfl rfl dX3_get_6 ?_
    refine lv_icmp_ge (tgt := 24) hx hb dX3_get_9 (by decide) (fun c2 => ?_) (fun c2 => ?_)
    · rw [if_pos c2] at hF
      refine lv_iconst (v := (0 : Int32)) hx hb dX3_get_24 (by decide) ?_
      exact kret _ _ _ _ _ _ ⟨(Option.some.inj hF), rfl⟩ Z dX3_get_25
    · rw [if_neg c2] at hF
      refine lv_iload_n hx hb dX3_get_12 rfl (lv_at hl 2 rfl) ?_
      refine lv_if_lt (tgt := 24) hx hb dX3_get_13 (by decide) (fun c3 => ?_) (fun c3 => ?_)
      · rw [if_pos c3] at hF
        refine lv_iconst (v := (0 : Int32)) hx hb dX3_get_24 (by decide) ?_
        exact kret _ _ _ _ _ _ ⟨(Option.some.inj hF), rfl⟩ Z dX3_get_25
      · rw [if_neg c3] at hF
        refine lv_iload_n hx hb dX3_get_16 rfl (lv_at hl 2 rfl) ?_
        refine lv_aload_n hx hb dX3_get_17 rfl (lv_at hl 0 rfl) ?_
        refine kget Fc Z inX3 0 rfl rfl 1 (by decide) mF_RX3_18 rfl rfl dX3_get_18 ?_
        refine lv_icmp_lt (tgt := 26) hx hb dX3_get_21 (by decide) (fun c4 => ?_) (fun c4 => ?_)
        · rw [if_pos c4] at hF
          refine lv_iload_n hx hb dX3_get_26 rfl (lv_at hl 1 rfl) ?_
          refine lv_aload_n hx hb dX3_get_27 rfl (lv_at hl 0 rfl) ?_
          refine kget Fc Z inX3 0 rfl rfl 1 (by decide) mF_RX3_18 rfl rfl dX3_get_28 ?_
          refine lv_imul hx hb dX3_get_31 ?_
          refine lv_iload_n hx hb dX3_get_32 rfl (lv_at hl 2 rfl) ?_
          refine lv_iadd hx hb dX3_get_33 ?_
          refine lv_istore_n (lv' := [(3, .int ((p1 * (nI cols)) + p2)), (0, .ref t), (1, .int p1), (2, .int p2)]) hx hb dX3_get_34 rfl hl (by decide) rfl (fun ls hl => ?_)
          refine lv_iload_n hx hb dX3_get_35 rfl (lv_at hl 0 rfl) ?_
          refine lv_aload_n hx hb dX3_get_36 rfl (lv_at hl 1 rfl) ?_
          refine kget Fc Z inX3 0 rfl rfl 2 (by decide) mF_RX3_27 rfl rfl dX3_get_37 ?_
          refine kalen (x := (nI L)) Fc Z 1 rfl rfl dX3_get_40 ?_
          refine lv_icmp_ge (tgt := 53) hx hb dX3_get_41 (by decide) (fun c5 => ?_) (fun c5 => ?_)
          · rw [if_pos c5] at hF
            refine lv_iconst (v := (0 : Int32)) hx hb dX3_get_53 (by decide) ?_
            exact kret _ _ _ _ _ _ ⟨(Option.some.inj hF), rfl⟩ Z dX3_get_54
          · rw [if_neg c5] at hF
            refine lv_aload_n hx hb dX3_get_44 rfl (lv_at hl 1 rfl) ?_
            refine kget Fc Z inX3 0 rfl rfl 2 (by decide) mF_RX3_27 rfl rfl dX3_get_45 ?_
            refine lv_iload_n hx hb dX3_get_48 rfl (lv_at hl 0 rfl) ?_
            obtain ⟨v6, h7, hF⟩ := obind hF
            refine kald Fc Z 1 rfl h7 dX3_get_49 ?_
            refine lv_goto (tgt := 54) hx hb dX3_get_50 (by decide) ?_
            exact kret _ _ _ _ _ _ ⟨(Option.some.inj hF), rfl⟩ Z dX3_get_54
        · rw [if_neg c4] at hF
          refine lv_iconst (v := (0 : Int32)) hx hb dX3_get_24 (by decide) ?_
          exact kret _ _ _ _ _ _ ⟨(Option.some.inj hF), rfl⟩ Z dX3_get_25
def X3_put (cap cols L : Nat) (u : Tab) (p1 p2 p3 : Int32) : Option (Tab) := if p1 < 0 then (some u) else if u.1 ≤ p1 then (some u) else if p2 < 0 then (some u) else if p2 < (nI cols) then (if (nI L) ≤ ((p1 * (nI cols)) + p2) then (some u) else (wrA u.2 L (((p1 * (nI cols)) + p2)) p3).bind fun g6 => bnd (u.1, g6) fun u8 => some u8) else some u
def rm_X3_put : Room := { frames := 0, cells := 0, slots := 0, locals := 0 }
theorem v_X3_put : WdV RX3 yX3_put cX3_put 5 none 3 := ⟨mI_X3_put, mS_X3_put, mZ_RX3, mC_X3_put, by decide +kernel⟩
set_option maxHeartbeats 8000000 in
set_option maxRecDepth 100000 in
theorem m_X3_put (l : Launch) (D : va_G) (cI cS : ClassId) (t a cap cols L : Nat) (sh : tbS cap cols L) (u : Tab) (ok : tbOK cap u) (p1 p2 p3 : Int32) (F : Tab) (hF : X3_put cap cols L u p1 p2 p3 = some F) : MV l yX3_put cX3_put 5 rm_X3_put D cI cS [.ref t, .int p1, .int p2, .int p3] (tbW t a cI cap cols L u) (tbW t a cI cap cols L) (fun u => u = F ∧ True) := by
  refine MV.mk RX3 rfl (by decide) (Nat.le_of_ble_eq_true rfl) ?_
  intro p e s m args below meth c A Q ls Fc hin hA Z kret hl
  obtain ⟨hx, hb, hml, hown, hts, hKN⟩ := id Fc
  replace hl : lv_has ls 5 [(0, .ref t), (1, .int p1), (2, .int p2), (3, .int p3)] := hl
  unfold X3_put at hF
  refine lv_iload_n hx hb dX3_put_0 rfl (lv_at hl 1 rfl) ?_
  refine lv_if_lt (tgt := 24) hx hb dX3_put_1 (by decide) (fun c1 => ?_) (fun c1 => ?_)
  · rw [if_pos c1] at hF
    exact kret _ _ _ _ _ ⟨(Option.some.inj hF), trivial⟩ Z dX3_put_24
  · rw [if_neg c1] at hF
    refine lv_iload_n hx hb dX3_put_4 rfl (lv_at hl 1 rfl) ?_
    refine lv_aload_n hx hb dX3_put_5 rfl (lv_at hl 0 rfl) ?_
    refine kget Fc Z inX3 0 rfl rfl 3 (by decide) mF_RX3_9 rfl rfl dX3_put_6 ?_
    refine lv_icmp_ge (tgt := 24) hx hb dX3_put_9 (by decide) (fun c2 => ?_) (fun c2 => ?_)
    · rw [if_pos c2] at hF
      exact kret _ _ _ _ _ ⟨(Option.some.inj hF), trivial⟩ Z dX3_put_24
    · rw [if_neg c2] at hF
      refine lv_iload_n hx hb dX3_put_12 rfl (lv_at hl 2 rfl) ?_
      refine lv_if_lt (tgt := 24) hx hb dX3_put_13 (by decide) (fun c3 => ?_) (fun c3 => ?_)
      · rw [if_pos c3] at hF
        exact kret _ _ _ _ _ ⟨(Option.some.inj hF), trivial⟩ Z dX3_put_24
      · rw [if_neg c3] at hF
        refine lv_iload_n hx hb dX3_put_16 rfl (lv_at hl 2 rfl) ?_
        refine lv_aload_n hx hb dX3_put_17 rfl (lv_at hl 0 rfl) ?_
        refine kget Fc Z inX3 0 rfl rfl 1 (by decide) mF_RX3_18 rfl rfl dX3_put_18 ?_
        refine lv_icmp_lt (tgt := 25) hx hb dX3_put_21 (by decide) (fun c4 => ?_) (fun c4 => ?_)
        · rw [if_pos c4] at hF
          refine lv_iload_n hx hb dX3_put_25 rfl (lv_at hl 1 rfl) ?_
          refine lv_aload_n hx hb dX3_put_26 rfl (lv_at hl 0 rfl) ?_
          refine kget Fc Z inX3 0 rfl rfl 1 (by decide) mF_RX3_18 rfl rfl dX3_put_27 ?_
          refine lv_imul hx hb dX3_put_30 ?_
          refine lv_iload_n hx hb dX3_put_31 rfl (lv_at hl 2 rfl) ?_
          refine lv_iadd hx hb dX3_put_32 ?_
          refine lv_istore (lv' := [(4, .int ((p1 * (nI cols)) + p2)), (0, .ref t), (1, .int p1), (2, .int p2), (3, .int p3)]) hx hb dX3_put_33 hl (by decide) rfl (fun ls hl => ?_)
          refine lv_iload hx hb dX3_put_35 (lv_at hl 0 rfl) ?_
          refine lv_aload_n hx hb dX3_put_37 rfl (lv_at hl 1 rfl) ?_
          refine kget Fc Z inX3 0 rfl rfl 2 (by decide) mF_RX3_27 rfl rfl dX3_put_38 ?_
          refine kalen (x := (nI L)) Fc Z 1 rfl rfl dX3_put_41 ?_
          refine lv_icmp_ge (tgt := 53) hx hb dX3_put_42 (by decide) (fun c5 => ?_) (fun c5 => ?_)
          · rw [if_pos c5] at hF
            exact kret _ _ _ _ _ ⟨(Option.some.inj hF), trivial⟩ Z dX3_put_53
          · rw [if_neg c5] at hF
            refine lv_aload_n hx hb dX3_put_45 rfl (lv_at hl 1 rfl) ?_
            refine kget Fc Z inX3 0 rfl rfl 2 (by decide) mF_RX3_27 rfl rfl dX3_put_46 ?_
            refine lv_iload hx hb dX3_put_49 (lv_at hl 0 rfl) ?_
            refine lv_iload_n hx hb dX3_put_51 rfl (lv_at hl 4 rfl) ?_
            obtain ⟨g6, h7, hF⟩ := obind hF
            obtain ⟨u8, e9, hF⟩ := bnd_el hF
            refine kast (w' := tbW t a cI cap cols L u8) Fc Z 1 rfl h7 (by rw [e9]; rfl) dX3_put_52 (fun H locs Z => ?_)
            have ok : tbOK cap u8 := by rw [e9]; exact ok
            exact kret _ _ _ _ _ ⟨(Option.some.inj hF), trivial⟩ Z dX3_put_53
        · rw [if_neg c4] at hF
          exact kret _ _ _ _ _ ⟨(Option.some.inj hF), trivial⟩ Z dX3_put_24
def X3_removeAllRows (cap cols L : Nat) (u : Tab) : Tab := bnd ((0 : Int32), u.2) fun u1 => u1
def rm_X3_removeAllRows : Room := { frames := 0, cells := 0, slots := 0, locals := 0 }
theorem v_X3_removeAllRows : WdV RX3 yX3_removeAllRows cX3_removeAllRows 1 none 0 := ⟨mI_X3_removeAllRows, mS_X3_removeAllRows, mZ_RX3, mC_X3_removeAllRows, by decide +kernel⟩
set_option maxHeartbeats 8000000 in
set_option maxRecDepth 100000 in
theorem m_X3_removeAllRows (l : Launch) (D : va_G) (cI cS : ClassId) (t a cap cols L : Nat) (sh : tbS cap cols L) (u : Tab) (ok : tbOK cap u) (F : Tab) (hF : X3_removeAllRows cap cols L u = F) : MV l yX3_removeAllRows cX3_removeAllRows 1 rm_X3_removeAllRows D cI cS [.ref t] (tbW t a cI cap cols L u) (tbW t a cI cap cols L) (fun u => u = F ∧ True) := by
  refine MV.mk RX3 rfl (by decide) (Nat.le_of_ble_eq_true rfl) ?_
  intro p e s m args below meth c A Q ls Fc hin hA Z kret hl
  obtain ⟨hx, hb, hml, hown, hts, hKN⟩ := id Fc
  replace hl : lv_has ls 1 [(0, .ref t)] := hl
  unfold X3_removeAllRows at hF
  refine lv_aload_n hx hb dX3_removeAllRows_0 rfl (lv_at hl 0 rfl) ?_
  refine lv_iconst (v := (0 : Int32)) hx hb dX3_removeAllRows_1 (by decide) ?_
  obtain ⟨u1, e2, hF⟩ := bnd_el hF
  refine kput (v := .int (0 : Int32)) (ty := .int) (w' := tbW t a cI cap cols L u1) Fc Z inX3 tyX3 tyX3_ok nmX3 0 rfl rfl 3 (by decide) mF_RX3_9 rfl rfl rfl rfl rfl (Nat.le_of_ble_eq_true rfl) (by rw [e2]; rfl) dX3_removeAllRows_2 (fun H locs Z => ?_)
  exact kret _ _ _ _ _ ⟨hF, trivial⟩ Z dX3_removeAllRows_5
end
section
/-! THE TABLE'S CONTRACTS IN PLAIN WORDS -/
theorem tbOK_n {cap cols L : Nat} {u : Tab} (sh : tbS cap cols L) (ok : tbOK cap u) : ∃ n : Nat, n ≤ cap ∧ u.1 = nI n := by
  obtain ⟨h0, h1⟩ := ok
  have hlt : ¬ u.1 < 0 := by
    intro h; exact absurd (Int32.lt_of_le_of_lt h0 h) (Int32.lt_irrefl)
  exact nI_of2 (nI_toInt (by have := sh.2.1; omega)) hlt h1
theorem tin {r c n cap cols : Nat} (hr : r < n) (hn : n ≤ cap) (hc : c < cols) : r * cols + c < cap * cols := by
  have h1 : (r + 1) * cols ≤ cap * cols := Nat.mul_le_mul_right _ (by omega)
  rw [Nat.add_mul] at h1
  omega
theorem tsm {cap cols : Nat} (h1 : cap ≤ 100) (h2 : cols ≤ 100) : cap * cols ≤ 10000 := Nat.mul_le_mul h1 h2
theorem X3_get_eq {cap cols L : Nat} {u : Tab} (sh : tbS cap cols L) (ok : tbOK cap u) (row col : Int32) : X3_get cap cols L u row col = some (tget cols u row col) := by
  obtain ⟨n, hn, e⟩ := tbOK_n sh ok
  obtain ⟨rfl, hc1, hc2⟩ := sh
  have hsm := tsm hc1 hc2
  unfold X3_get tget
  rw [e]
  rcases pk_ix row (n := n) (by omega) with h | h | ⟨r, hr, rfl⟩
  · rw [if_pos h, if_pos (Or.inl h)]
  · rw [if_pos (Or.inr (Or.inl h))]
    by_cases h0 : row < 0
    · rw [if_pos h0]
    · rw [if_neg h0, if_pos h]
  · rw [if_neg (nI_pos (by omega)), if_neg (nI_ge hr (by omega))]
    rcases pk_ix col (n := cols) (by omega) with h | h | ⟨c, hc, rfl⟩
    · rw [if_pos h, if_pos (Or.inr (Or.inr (Or.inl h)))]
    · rw [if_pos (Or.inr (Or.inr (Or.inr h)))]
      by_cases h0 : col < 0
      · rw [if_pos h0]
      · rw [if_neg h0, if_neg (fun z => absurd (Int32.lt_of_lt_of_le z h) Int32.lt_irrefl)]
    · have hin := tin hr hn hc
      rw [if_neg (nI_pos (by omega)), if_pos (nI_lt hc (by omega)), pk_mul, nI_add, if_neg (nI_ge hin (by omega)), if_neg (fun z => z.elim (nI_pos (by omega)) (fun z => z.elim (nI_ge hr (by omega)) (fun z => z.elim (nI_pos (by omega)) (nI_ge hc (by omega)))))]
      unfold rdA tat
      rw [if_neg (nI_in hin (by omega)), nI_clamp (by omega), nI_clamp (by omega), nI_clamp (by omega)]
      rfl
theorem X3_put_eq {cap cols L : Nat} {u : Tab} (sh : tbS cap cols L) (ok : tbOK cap u) (row col v : Int32) : X3_put cap cols L u row col v = some (tput cols u row col v) := by
  obtain ⟨n, hn, e⟩ := tbOK_n sh ok
  obtain ⟨rfl, hc1, hc2⟩ := sh
  have hsm := tsm hc1 hc2
  unfold X3_put tput
  rw [e]
  rcases pk_ix row (n := n) (by omega) with h | h | ⟨r, hr, rfl⟩
  · rw [if_pos h, if_pos (Or.inl h)]
  · rw [if_pos (Or.inr (Or.inl h))]
    by_cases h0 : row < 0
    · rw [if_pos h0]
    · rw [if_neg h0, if_pos h]
  · rw [if_neg (nI_pos (by omega)), if_neg (nI_ge hr (by omega))]
    rcases pk_ix col (n := cols) (by omega) with h | h | ⟨c, hc, rfl⟩
    · rw [if_pos h, if_pos (Or.inr (Or.inr (Or.inl h)))]
    · rw [if_pos (Or.inr (Or.inr (Or.inr h)))]
      by_cases h0 : col < 0
      · rw [if_pos h0]
      · rw [if_neg h0, if_neg (fun z => absurd (Int32.lt_of_lt_of_le z h) Int32.lt_irrefl)]
    · have hin := tin hr hn hc
      rw [if_neg (nI_pos (by omega)), if_pos (nI_lt hc (by omega)), pk_mul, nI_add, if_neg (nI_ge hin (by omega)), if_neg (fun z => z.elim (nI_pos (by omega)) (fun z => z.elim (nI_ge hr (by omega)) (fun z => z.elim (nI_pos (by omega)) (nI_ge hc (by omega)))))]
      unfold wrA tat
      rw [if_neg (nI_in hin (by omega)), nI_clamp (by omega), nI_clamp (by omega), nI_clamp (by omega), ← e]
      rfl
theorem X3_has_eq {cap cols L : Nat} {u : Tab} (row : Int32) : X3_has cap cols L u row = thas u row := by
  unfold X3_has thas
  by_cases h : row < 0
  · rw [if_pos h]
    have : ¬ 0 ≤ row := fun z => absurd (Int32.lt_of_le_of_lt z h) Int32.lt_irrefl
    simp [this]
  · rw [if_neg h]
    have h1 : 0 ≤ row := Int32.not_lt.mp h
    by_cases h2 : u.1 ≤ row
    · rw [if_pos h2]
      have : ¬ row < u.1 := fun z => absurd (Int32.lt_of_lt_of_le z h2) Int32.lt_irrefl
      simp [this]
    · rw [if_neg h2]
      have : row < u.1 := Int32.not_le.mp h2
      simp [this, h1]
theorem MV.mono {S : Type} {l : Launch} {y : MethodName} {cc : ByteArray} {nL : Nat} {rm : Room} {D : va_G} {cI cS : ClassId} {as : List Value} {w0 : va_W} {wf : S → va_W} {post post' : S → Prop} (h : MV l y cc nL rm D cI cS as w0 wf post) (hp : ∀ u, post u → post' u) : MV l y cc nL rm D cI cS as w0 wf post' := by
  intro sz p e1 a c k s m args below hf hfit hP hK
  obtain ⟨n, o, g1, g2, g3, ⟨⟨u, q1, q2, q3⟩, q4⟩, q5⟩ := h sz p e1 a c k s m args below hf hfit hP hK
  exact ⟨n, o, g1, g2, g3, ⟨⟨u, q1, hp u q2, q3⟩, q4⟩, q5⟩
theorem MI.mono {S : Type} {l : Launch} {y : MethodName} {cc : ByteArray} {nL : Nat} {ret : Option FieldType} {rm : Room} {D : va_G} {cI cS : ClassId} {as : List Value} {w0 : va_W} {wf : S → va_W} {post post' : Int32 → S → Prop} (h : MI l y cc nL ret rm D cI cS as w0 wf post) (hp : ∀ r u, post r u → post' r u) : MI l y cc nL ret rm D cI cS as w0 wf post' := by
  intro sz p e1 a c k s m args below hf hfit hP hK
  obtain ⟨n, o, g1, g2, g3, ⟨⟨r, u, q1, q2, q3⟩, q4⟩, q5⟩ := h sz p e1 a c k s m args below hf hfit hP hK
  exact ⟨n, o, g1, g2, g3, ⟨⟨r, u, q1, hp r u q2, q3⟩, q4⟩, q5⟩
theorem tput_ok {cap cols : Nat} {u : Tab} {row col v : Int32} (ok : tbOK cap u) : tbOK cap (tput cols u row col v) := by
  unfold tput
  split <;> exact ok
theorem c_X3_size (l : Launch) (D : va_G) (cI cS : ClassId) (t a cap cols L : Nat) (sh : tbS cap cols L) (u : Tab) (ok : tbOK cap u) (F : Int32) (hF : u.1 = F) : MI l yX3_size cX3_size 1 (some .int) rm_X3_size D cI cS [.ref t] (tbW t a cI cap cols L u) (tbW t a cI cap cols L) (fun r u' => r = F ∧ u' = u) := m_X3_size l D cI cS t a cap cols L sh u ok F hF
theorem c_X3_has (l : Launch) (D : va_G) (cI cS : ClassId) (t a cap cols L : Nat) (sh : tbS cap cols L) (u : Tab) (ok : tbOK cap u) (p1 : Int32) (F : Bool) (hF : thas u p1 = F) : MI l yX3_has cX3_has 2 (some .boolean) rm_X3_has D cI cS [.ref t, .int p1] (tbW t a cI cap cols L u) (tbW t a cI cap cols L) (fun r u' => r = bi F ∧ u' = u) := m_X3_has l D cI cS t a cap cols L sh u ok p1 F (by rw [X3_has_eq]; exact hF)
theorem c_X3_get (l : Launch) (D : va_G) (cI cS : ClassId) (t a cap cols L : Nat) (sh : tbS cap cols L) (u : Tab) (ok : tbOK cap u) (p1 p2 : Int32) (F : Int32) (hF : tget cols u p1 p2 = F) : MI l yX3_get cX3_get 4 (some .int) rm_X3_get D cI cS [.ref t, .int p1, .int p2] (tbW t a cI cap cols L u) (tbW t a cI cap cols L) (fun r u' => r = F ∧ u' = u) := m_X3_get l D cI cS t a cap cols L sh u ok p1 p2 F (by rw [X3_get_eq sh ok, hF])
theorem c_X3_put (l : Launch) (D : va_G) (cI cS : ClassId) (t a cap cols L : Nat) (sh : tbS cap cols L) (u : Tab) (ok : tbOK cap u) (p1 p2 p3 : Int32) (F : Tab) (hF : tput cols u p1 p2 p3 = F) : MV l yX3_put cX3_put 5 rm_X3_put D cI cS [.ref t, .int p1, .int p2, .int p3] (tbW t a cI cap cols L u) (tbW t a cI cap cols L) (fun u => u = F ∧ tbOK cap u) :=
  (m_X3_put l D cI cS t a cap cols L sh u ok p1 p2 p3 F (by rw [X3_put_eq sh ok, hF])).mono (fun _ h => ⟨h.1, by rw [h.1, ← hF]; exact tput_ok ok⟩)
theorem c_X3_removeAllRows (l : Launch) (D : va_G) (cI cS : ClassId) (t a cap cols L : Nat) (sh : tbS cap cols L) (u : Tab) (ok : tbOK cap u) (F : Tab) (hF : tclr u = F) : MV l yX3_removeAllRows cX3_removeAllRows 1 rm_X3_removeAllRows D cI cS [.ref t] (tbW t a cI cap cols L u) (tbW t a cI cap cols L) (fun u => u = F ∧ tbOK cap u) :=
  (m_X3_removeAllRows l D cI cS t a cap cols L sh u ok F hF).mono (fun _ h => ⟨h.1, by rw [h.1, ← hF]; exact ⟨by show (0 : Int32) ≤ 0; decide, nI_pos' (by have := sh.2.1; omega)⟩⟩)
theorem tb_inc {cap cols L : Nat} {u u1 : Tab} (sh : tbS cap cols L) (ok : tbOK cap u) (h0 : u.1 < nI cap) (e : u1 = (u.1 + (1 : Int32), u.2)) : tbOK cap u1 := by
  obtain ⟨n, hn, e1⟩ := tbOK_n sh ok
  have hc := sh.2.1
  have h : ¬ nI cap ≤ u.1 := fun z => absurd (Int32.lt_of_lt_of_le h0 z) Int32.lt_irrefl
  rw [e1] at h
  have hlt : n < cap := by
    rcases Nat.lt_or_ge n cap with z | z
    · exact z
    · exact absurd (nI_le z (by omega)) h
  rw [e]
  show 0 ≤ u.1 + 1 ∧ u.1 + 1 ≤ nI cap
  rw [e1, nI_1]
  exact ⟨nI_pos' (by omega), nI_le hlt (by omega)⟩
end
section
/-! THE TABLE: rows added and taken away -/
def X3_addRow_L26 (cap cols L : Nat) : Nat → Int32 → Tab → Option (Int32 × Tab)
  | 0, _, _ => none
  | k + 1, x1, u => if (nI cols) ≤ x1 then (some (((u.1 - (1 : Int32)), u))) else bnd (tput cols u ((u.1 - (1 : Int32))) x1 (0 : Int32)) fun q2 => X3_addRow_L26 cap cols L k ((x1 + (1 : Int32))) q2
def X3_addRow (cap cols L : Nat) (u : Tab) : Option (Int32 × Tab) := if u.1 < (nI cap) then (bnd ((u.1 + (1 : Int32)), u.2) fun u5 => X3_addRow_L26 cap cols L FU (0 : Int32) u5) else some (((-3 : Int32), u))
def rm_X3_addRow : Room := { frames := 1, cells := 0, slots := 0, locals := 24 }
theorem v_X3_addRow : WdV RX3 yX3_addRow cX3_addRow 2 (some .int) 0 := ⟨mI_X3_addRow, mS_X3_addRow, mZ_RX3, mC_X3_addRow, by decide +kernel⟩
set_option maxHeartbeats 8000000 in
set_option maxRecDepth 100000 in
theorem m_X3_addRow (l : Launch) (D : va_G) (cI cS : ClassId) (t a cap cols L : Nat) (sh : tbS cap cols L) (u : Tab) (ok : tbOK cap u) (F : Int32 × Tab) (hF : X3_addRow cap cols L u = some F) : MI l yX3_addRow cX3_addRow 2 (some .int) rm_X3_addRow D cI cS [.ref t] (tbW t a cI cap cols L u) (tbW t a cI cap cols L) (fun r u => r = F.1 ∧ u = F.2 ∧ True) := by
  refine MI.mk RX3 rfl .int rfl (by decide) (Nat.le_of_ble_eq_true rfl) (fun _ _ _ => rfl) ?_
  intro p e s m args below meth c A Q ls Fc hin hA Z kret hl
  obtain ⟨hx, hb, hml, hown, hts, hKN⟩ := id Fc
  replace hl : lv_has ls 2 [(0, .ref t)] := hl
  have L26 : ∀ (k : Nat) (x1 : Int32) (u : Tab) (H : Heap) (locs : List Loc) (ls : Array Slot), X3_addRow_L26 cap cols L  k x1 u = some F → tbOK cap u → Ix D A s (tbW t a cI cap cols L u) H locs → lv_has ls 2 [(0, .ref t), (1, .int x1)] → W p l e rm_X3_addRow s m args below meth c H locs 0 0 Q (F0 m 26 ls []) := by
    intro k
    induction k with
    | zero => intro x1 u H locs ls hF; rw [X3_addRow_L26] at hF; cases hF
    | succ k ih =>
      intro x1 u H locs ls hF ok Z hl
      rw [X3_addRow_L26] at hF
      refine lv_iload_n hx hb dX3_addRow_26 rfl (lv_at hl 1 rfl) ?_
      refine lv_aload_n hx hb dX3_addRow_27 rfl (lv_at hl 0 rfl) ?_
      refine kget Fc Z inX3 0 rfl rfl 1 (by decide) mF_RX3_18 rfl rfl dX3_addRow_28 ?_
      refine lv_icmp_ge (tgt := 52) hx hb dX3_addRow_31 (by decide) (fun c1 => ?_) (fun c1 => ?_)
      · rw [if_pos c1] at hF
        refine lv_aload_n hx hb dX3_addRow_52 rfl (lv_at hl 0 rfl) ?_
        refine kget Fc Z inX3 0 rfl rfl 3 (by decide) mF_RX3_9 rfl rfl dX3_addRow_53 ?_
        refine lv_iconst (v := (1 : Int32)) hx hb dX3_addRow_56 (by decide) ?_
        refine lv_isub hx hb dX3_addRow_57 ?_
        exact kret _ _ _ _ _ _ ⟨(congrArg Prod.fst (Option.some.inj hF)), congrArg Prod.snd (Option.some.inj hF), trivial⟩ Z dX3_addRow_58
      · rw [if_neg c1] at hF
        refine lv_aload_n hx hb dX3_addRow_34 rfl (lv_at hl 0 rfl) ?_
        refine lv_aload_n hx hb dX3_addRow_35 rfl (lv_at hl 0 rfl) ?_
        refine kget Fc Z inX3 0 rfl rfl 3 (by decide) mF_RX3_9 rfl rfl dX3_addRow_36 ?_
        refine lv_iconst (v := (1 : Int32)) hx hb dX3_addRow_39 (by decide) ?_
        refine lv_isub hx hb dX3_addRow_40 ?_
        refine lv_iload_n hx hb dX3_addRow_41 rfl (lv_at hl 1 rfl) ?_
        refine lv_iconst (v := (0 : Int32)) hx hb dX3_addRow_42 (by decide) ?_
        obtain ⟨q2, e3, hF⟩ := bnd_el hF
        refine kv_i (As := [.int ((u.1 - (1 : Int32))), .int x1, .int (0 : Int32)]) (ok := tbOK cap) Fc hA Z Lens.all (c_X3_put l D cI cS t a cap cols L sh u ok ((u.1 - (1 : Int32))) x1 (0 : Int32) q2 e3.symm) mL_RX3_31 v_X3_put ⟨rfl, rfl⟩ ⟨Nat.le_of_ble_eq_true rfl, Nat.le_of_ble_eq_true rfl⟩ ⟨Nat.zero_le _, Nat.zero_le _⟩ 0 3 rfl rfl rfl hl (Nat.le_of_ble_eq_true rfl) dX3_addRow_43 rfl (fun H locs ok1 Z => ?_)
        have ok := ok1
        refine lv_iinc (v := (x1 + (1 : Int32))) (lv' := [(1, .int (x1 + (1 : Int32))), (0, .ref t)]) hx hb dX3_addRow_46 hl (k := 1) rfl (by rfl) (by decide) rfl (fun ls hl => ?_)
        refine lv_goto (tgt := 26) hx hb dX3_addRow_49 (by decide) ?_
        exact ih ((x1 + (1 : Int32))) q2 _ _ _ hF ok Z (lv_sub hl [1, 0] rfl)
  unfold X3_addRow at hF
  refine lv_aload_n hx hb dX3_addRow_0 rfl (lv_at hl 0 rfl) ?_
  refine kget Fc Z inX3 0 rfl rfl 3 (by decide) mF_RX3_9 rfl rfl dX3_addRow_1 ?_
  refine lv_aload_n hx hb dX3_addRow_4 rfl (lv_at hl 0 rfl) ?_
  refine kget Fc Z inX3 0 rfl rfl 0 (by decide) mF_RX3_15 rfl rfl dX3_addRow_5 ?_
  refine lv_icmp_lt (tgt := 14) hx hb dX3_addRow_8 (by decide) (fun c4 => ?_) (fun c4 => ?_)
  · rw [if_pos c4] at hF
    refine lv_aload_n hx hb dX3_addRow_14 rfl (lv_at hl 0 rfl) ?_
    refine lv_dup hx hb dX3_addRow_15 rfl ?_
    refine kget Fc Z inX3 0 rfl rfl 3 (by decide) mF_RX3_9 rfl rfl dX3_addRow_16 ?_
    refine lv_iconst (v := (1 : Int32)) hx hb dX3_addRow_19 (by decide) ?_
    refine lv_iadd hx hb dX3_addRow_20 ?_
    obtain ⟨u5, e6, hF⟩ := bnd_el hF
    refine kput (v := .int ((u.1 + (1 : Int32)))) (ty := .int) (w' := tbW t a cI cap cols L u5) Fc Z inX3 tyX3 tyX3_ok nmX3 0 rfl rfl 3 (by decide) mF_RX3_9 rfl rfl rfl rfl rfl (Nat.le_of_ble_eq_true rfl) (by rw [e6]; rfl) dX3_addRow_21 (fun H locs Z => ?_)
    have ok := tb_inc sh ok (by assumption) e6
    refine lv_iconst (v := (0 : Int32)) hx hb dX3_addRow_24 (by decide) ?_
    refine lv_istore_n (lv' := [(1, .int (0 : Int32)), (0, .ref t)]) hx hb dX3_addRow_25 rfl hl (by decide) rfl (fun ls hl => ?_)
    exact L26  FU (0 : Int32) u5 _ _ _ hF ok Z (lv_sub hl [1, 0] rfl)
  · rw [if_neg c4] at hF
    refine lv_bipush (v := (-3 : Int32)) hx hb dX3_addRow_11 (by decide) ?_
    exact kret _ _ _ _ _ _ ⟨(congrArg Prod.fst (Option.some.inj hF)), congrArg Prod.snd (Option.some.inj hF), trivial⟩ Z dX3_addRow_13
def X3_removeRow_L23 (cap cols L : Nat) (x2 : Int32) (K : Tab → Option (Tab)) : Nat → Int32 → Tab → Option (Tab)
  | 0, _, _ => none
  | k + 1, x3, u => if (nI cols) ≤ x3 then (K  u) else bnd (tput cols u ((x2 - (1 : Int32))) x3 (tget cols u x2 x3)) fun q2 => X3_removeRow_L23 cap cols L x2 K k ((x3 + (1 : Int32))) q2
def X3_removeRow_L13 (cap cols L : Nat) : Nat → Int32 → Tab → Option (Tab)
  | 0, _, _ => none
  | k + 1, x2, u => if u.1 ≤ x2 then (bnd ((u.1 - (1 : Int32)), u.2) fun u5 => some u5) else X3_removeRow_L23 cap cols L x2 (fun u1023 => X3_removeRow_L13 cap cols L k ((x2 + (1 : Int32))) u1023) FU (0 : Int32) u
def X3_removeRow (cap cols L : Nat) (u : Tab) (p1 : Int32) : Option (Tab) := if (bi (thas u p1)) = 0 then (some u) else X3_removeRow_L13 cap cols L FU ((p1 + (1 : Int32))) u
def rm_X3_removeRow : Room := { frames := 1, cells := 0, slots := 0, locals := 24 }
theorem v_X3_removeRow : WdV RX3 yX3_removeRow cX3_removeRow 4 none 1 := ⟨mI_X3_removeRow, mS_X3_removeRow, mZ_RX3, mC_X3_removeRow, by decide +kernel⟩
set_option maxHeartbeats 8000000 in
set_option maxRecDepth 100000 in
theorem m_X3_removeRow (l : Launch) (D : va_G) (cI cS : ClassId) (t a cap cols L : Nat) (sh : tbS cap cols L) (u : Tab) (ok : tbOK cap u) (p1 : Int32) (F : Tab) (hF : X3_removeRow cap cols L u p1 = some F) : MV l yX3_removeRow cX3_removeRow 4 rm_X3_removeRow D cI cS [.ref t, .int p1] (tbW t a cI cap cols L u) (tbW t a cI cap cols L) (fun u => u = F ∧ True) := by
  refine MV.mk RX3 rfl (by decide) (Nat.le_of_ble_eq_true rfl) ?_
  intro p e s m args below meth c A Q ls Fc hin hA Z kret hl
  obtain ⟨hx, hb, hml, hown, hts, hKN⟩ := id Fc
  replace hl : lv_has ls 4 [(0, .ref t), (1, .int p1)] := hl
  have L23 : ∀ (x2 : Int32) (K : Tab → Option (Tab)) (hK : ∀ (u : Tab) (H : Heap) (locs : List Loc) (ls : Array Slot), K  u = some F → tbOK cap u → Ix D A s (tbW t a cI cap cols L u) H locs → lv_has ls 4 [(0, .ref t), (2, .int x2)] → W p l e rm_X3_removeRow s m args below meth c H locs 0 0 Q (F0 m 51 ls [])) (k : Nat) (x3 : Int32) (u : Tab) (H : Heap) (locs : List Loc) (ls : Array Slot), X3_removeRow_L23 cap cols L x2 K  k x3 u = some F → tbOK cap u → Ix D A s (tbW t a cI cap cols L u) H locs → lv_has ls 4 [(0, .ref t), (2, .int x2), (3, .int x3)] → W p l e rm_X3_removeRow s m args below meth c H locs 0 0 Q (F0 m 23 ls []) := by
    intro x2 K hK k
    induction k with
    | zero => intro x3 u H locs ls hF; rw [X3_removeRow_L23] at hF; cases hF
    | succ k ih =>
      intro x3 u H locs ls hF ok Z hl
      rw [X3_removeRow_L23] at hF
      refine lv_iload_n hx hb dX3_removeRow_23 rfl (lv_at hl 2 rfl) ?_
      refine lv_aload_n hx hb dX3_removeRow_24 rfl (lv_at hl 0 rfl) ?_
      refine kget Fc Z inX3 0 rfl rfl 1 (by decide) mF_RX3_18 rfl rfl dX3_removeRow_25 ?_
      refine lv_icmp_ge (tgt := 51) hx hb dX3_removeRow_28 (by decide) (fun c1 => ?_) (fun c1 => ?_)
      · rw [if_pos c1] at hF
        exact hK  u _ _ _ hF ok Z (lv_sub hl [0, 1] rfl)
      · rw [if_neg c1] at hF
        refine lv_aload_n hx hb dX3_removeRow_31 rfl (lv_at hl 0 rfl) ?_
        refine lv_iload_n hx hb dX3_removeRow_32 rfl (lv_at hl 1 rfl) ?_
        refine lv_iconst (v := (1 : Int32)) hx hb dX3_removeRow_33 (by decide) ?_
        refine lv_isub hx hb dX3_removeRow_34 ?_
        refine lv_iload_n hx hb dX3_removeRow_35 rfl (lv_at hl 2 rfl) ?_
        refine lv_aload_n hx hb dX3_removeRow_36 rfl (lv_at hl 0 rfl) ?_
        refine lv_iload_n hx hb dX3_removeRow_37 rfl (lv_at hl 1 rfl) ?_
        refine lv_iload_n hx hb dX3_removeRow_38 rfl (lv_at hl 2 rfl) ?_
        refine kr_i (As := [.int x2, .int x3]) Fc hA Z Lens.all (c_X3_get l D cI cS t a cap cols L sh u ok x2 x3 (tget cols u x2 x3) rfl) mL_RX3_39 v_X3_get ⟨rfl, rfl⟩ ⟨Nat.le_of_ble_eq_true rfl, Nat.le_of_ble_eq_true rfl⟩ ⟨Nat.zero_le _, Nat.zero_le _⟩ 0 3 rfl rfl rfl hl (Nat.le_of_ble_eq_true rfl) dX3_removeRow_39 rfl (fun H locs Z => ?_)
        obtain ⟨q2, e3, hF⟩ := bnd_el hF
        refine kv_i (As := [.int ((x2 - (1 : Int32))), .int x3, .int (tget cols u x2 x3)]) (ok := tbOK cap) Fc hA Z Lens.all (c_X3_put l D cI cS t a cap cols L sh u ok ((x2 - (1 : Int32))) x3 (tget cols u x2 x3) q2 e3.symm) mL_RX3_31 v_X3_put ⟨rfl, rfl⟩ ⟨Nat.le_of_ble_eq_true rfl, Nat.le_of_ble_eq_true rfl⟩ ⟨Nat.zero_le _, Nat.zero_le _⟩ 0 3 rfl rfl rfl hl (Nat.le_of_ble_eq_true rfl) dX3_removeRow_42 rfl (fun H locs ok1 Z => ?_)
        have ok := ok1
        refine lv_iinc (v := (x3 + (1 : Int32))) (lv' := [(3, .int (x3 + (1 : Int32))), (0, .ref t), (2, .int x2)]) hx hb dX3_removeRow_45 hl (k := 2) rfl (by rfl) (by decide) rfl (fun ls hl => ?_)
        refine lv_goto (tgt := 23) hx hb dX3_removeRow_48 (by decide) ?_
        exact ih ((x3 + (1 : Int32))) q2 _ _ _ hF ok Z (lv_sub hl [1, 2, 0] rfl)
  have L13 : ∀ (k : Nat) (x2 : Int32) (u : Tab) (H : Heap) (locs : List Loc) (ls : Array Slot), X3_removeRow_L13 cap cols L  k x2 u = some F → tbOK cap u → Ix D A s (tbW t a cI cap cols L u) H locs → lv_has ls 4 [(0, .ref t), (2, .int x2)] → W p l e rm_X3_removeRow s m args below meth c H locs 0 0 Q (F0 m 13 ls []) := by
    intro k
    induction k with
    | zero => intro x2 u H locs ls hF; rw [X3_removeRow_L13] at hF; cases hF
    | succ k ih =>
      intro x2 u H locs ls hF ok Z hl
      rw [X3_removeRow_L13] at hF
      refine lv_iload_n hx hb dX3_removeRow_13 rfl (lv_at hl 1 rfl) ?_
      refine lv_aload_n hx hb dX3_removeRow_14 rfl (lv_at hl 0 rfl) ?_
      refine kget Fc Z inX3 0 rfl rfl 3 (by decide) mF_RX3_9 rfl rfl dX3_removeRow_15 ?_
      refine lv_icmp_ge (tgt := 57) hx hb dX3_removeRow_18 (by decide) (fun c4 => ?_) (fun c4 => ?_)
      · rw [if_pos c4] at hF
        refine lv_aload_n hx hb dX3_removeRow_57 rfl (lv_at hl 0 rfl) ?_
        refine lv_dup hx hb dX3_removeRow_58 rfl ?_
        refine kget Fc Z inX3 0 rfl rfl 3 (by decide) mF_RX3_9 rfl rfl dX3_removeRow_59 ?_
        refine lv_iconst (v := (1 : Int32)) hx hb dX3_removeRow_62 (by decide) ?_
        refine lv_isub hx hb dX3_removeRow_63 ?_
        obtain ⟨u5, e6, hF⟩ := bnd_el hF
        refine kput (v := .int ((u.1 - (1 : Int32)))) (ty := .int) (w' := tbW t a cI cap cols L u5) Fc Z inX3 tyX3 tyX3_ok nmX3 0 rfl rfl 3 (by decide) mF_RX3_9 rfl rfl rfl rfl rfl (Nat.le_of_ble_eq_true rfl) (by rw [e6]; rfl) dX3_removeRow_64 (fun H locs Z => ?_)
        exact kret _ _ _ _ _ ⟨(Option.some.inj hF), trivial⟩ Z dX3_removeRow_67
      · rw [if_neg c4] at hF
        refine lv_iconst (v := (0 : Int32)) hx hb dX3_removeRow_21 (by decide) ?_
        refine lv_istore_n (lv' := [(3, .int (0 : Int32)), (0, .ref t), (2, .int x2)]) hx hb dX3_removeRow_22 rfl hl (by decide) rfl (fun ls hl => ?_)
        refine L23 x2 _ ?_ _ (0 : Int32) u _ _ _ hF ok Z (lv_sub hl [1, 2, 0] rfl)
        intro u1023 H locs ls hF ok Z hl
        refine lv_iinc (v := (x2 + (1 : Int32))) (lv' := [(2, .int (x2 + (1 : Int32))), (0, .ref t)]) hx hb dX3_removeRow_51 hl (k := 1) rfl (by rfl) (by decide) rfl (fun ls hl => ?_)
        refine lv_goto (tgt := 13) hx hb dX3_removeRow_54 (by decide) ?_
        exact ih ((x2 + (1 : Int32))) u1023 _ _ _ hF ok Z (lv_sub hl [1, 0] rfl)
  unfold X3_removeRow at hF
  refine lv_aload_n hx hb dX3_removeRow_0 rfl (lv_at hl 0 rfl) ?_
  refine lv_iload_n hx hb dX3_removeRow_1 rfl (lv_at hl 1 rfl) ?_
  refine kr_i (As := [.int p1]) Fc hA Z Lens.all (c_X3_has l D cI cS t a cap cols L sh u ok p1 (thas u p1) rfl) mL_RX3_35 v_X3_has ⟨rfl, rfl⟩ ⟨Nat.le_of_ble_eq_true rfl, Nat.le_of_ble_eq_true rfl⟩ ⟨Nat.zero_le _, Nat.zero_le _⟩ 0 3 rfl rfl rfl hl (Nat.le_of_ble_eq_true rfl) dX3_removeRow_2 rfl (fun H locs Z => ?_)
  refine lv_if_ne (tgt := 9) hx hb dX3_removeRow_5 (by decide) (fun c7 => ?_) (fun c7 => ?_)
  · rw [if_neg c7] at hF
    refine lv_iload_n hx hb dX3_removeRow_9 rfl (lv_at hl 1 rfl) ?_
    refine lv_iconst (v := (1 : Int32)) hx hb dX3_removeRow_10 (by decide) ?_
    refine lv_iadd hx hb dX3_removeRow_11 ?_
    refine lv_istore_n (lv' := [(2, .int (p1 + (1 : Int32))), (0, .ref t), (1, .int p1)]) hx hb dX3_removeRow_12 rfl hl (by decide) rfl (fun ls hl => ?_)
    exact L13  FU ((p1 + (1 : Int32))) u _ _ _ hF ok Z (lv_sub hl [1, 0] rfl)
  · rw [if_pos c7] at hF
    exact kret _ _ _ _ _ ⟨(Option.some.inj hF), trivial⟩ Z dX3_removeRow_8
end
